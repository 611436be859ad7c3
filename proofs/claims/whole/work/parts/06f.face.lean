def f_X11_faulty (x1 : Int32) (h : PH) : Option (Int32 × PH) :=
  lt_b (ph_i h 0 11 x1) fun h_1 =>
  some ((-10) - x1, h_1)
theorem e_X11_faulty : yX11_faulty.cls = RX11 ∧ yX11_faulty.cls ≠ "java/lang/invoke/MethodHandle" ∧ yX11_faulty.cls ≠ "java/lang/invoke/VarHandle" ∧ (parseMethodDescriptor yX11_faulty.desc).map (fun d => d.parameters.length) = some 1 := by decide +kernel
set_option maxRecDepth 100000 in
set_option maxHeartbeats 4000000 in
theorem c_X11_faulty (x1 : Int32) (h : PH) (h2 : PH) (r : Int32) (hf : f_X11_faulty x1 h = some (r, h2)) : Con yX11_faulty wsX11_faulty (rm_d 0) l0_B [.ref 0, .int x1] h (some (.int r)) h2 := by
  have hn11 : ∀ w ∈ wsX110, w ∈ wsX11_faulty := (fun _ hw => (List.mem_cons_of_mem _ (List.mem_append_right _ hw)))
  refine con_i (ty := .int) (cc := cX11_faulty) (nL := 2) (by decide) rfl (Nat.le_of_ble_eq_true rfl) ?_
  intro C hC hret
  change Go l0_B C 0 0 0 [(0, .ref 0), (1, .int x1)] [] h
  unfold f_X11_faulty at hf
  refine go_aload_n hC dX11_faulty_0 rfl 0 rfl ?_
  refine go_iload_n hC dX11_faulty_1 rfl 1 rfl ?_
  obtain ⟨h_1, eh_1, hf⟩ := lt_e hf
  refine go_puti hC tyX11 (j := 11) (idx := 77) (nm := "latestFault") (ds := "I") (b_0 _) rfl rfl hn11 tyX11_ok nmX11 (Nat.le_of_ble_eq_true rfl) rfl rfl (List.mem_cons_of_mem _ (List.mem_append_left _ (List.mem_of_getElem? (i := 0) rfl))) (Or.inl rfl) rfl (tyX11_ok _ (Nat.le_of_ble_eq_true rfl)) dX11_faulty_2 ?_
  refine go_toph eh_1 ?_
  refine go_bipush hC dX11_faulty_5 k8_m10 ?_
  refine go_iload_n hC dX11_faulty_7 rfl 1 rfl ?_
  refine go_isub hC dX11_faulty_8 ?_
  obtain ⟨rfl, rfl⟩ := so_2 hf
  exact hret _ _ rfl dX11_faulty_9
def lb_X11_forgetWays_2  (x1 : Int32) (h : PH) : Option ((Int32 × PH) ⊕ (Int32 × PH)) :=
  if 6 ≤ x1 then (
  some (.inr (x1, h)))
  else (
  ga_i x1 6 (
  lt_b (ph_w h 22 x1.toNatClampNeg none) fun h_6 =>
  lt_b (x1 + 1) fun x1_7 =>
  some (.inl (x1_7, h_6))))
def f_X11_forgetWays (h : PH) : Option (Unit × PH) :=
  bd_1 (lp_f (fun s => lb_X11_forgetWays_2  s.1 s.2) fu_l (0, h)) fun s_9 =>
  lt_b (ph_i s_9.2 0 5 0) fun h_10 =>
  some ((), h_10)
set_option maxRecDepth 100000 in
set_option maxHeartbeats 4000000 in
theorem lw_X11_forgetWays_2 {C : GC} (hC : Cx C cX11_forgetWays 2 wsX11_forgetWays RX11 none (rm_d 0))  : ∀ (n9 : Nat) (x1 : Int32) (h : PH) (y : Int32 × PH), lp_f (fun s => lb_X11_forgetWays_2  s.1 s.2) n9 (x1, h) = some y → ∀ (hk : Go l0_B C 0 0 21 [(0, .ref 0)] [] y.2), Go l0_B C 0 0 2 [(0, .ref 0), (1, .int x1)] [] h := by
  have hn11 : ∀ w ∈ wsX110, w ∈ wsX11_forgetWays := (fun _ hw => (List.mem_cons_of_mem _ (List.mem_append_right _ hw)))
  intro n9
  induction n9 with
  | zero =>
    intro x1 h y hlp
    cases hlp
  | succ n9 ih =>
    intro x1 h y hlp hk
    obtain ⟨k9, z, hk9, hf, hy⟩ := lp_e hlp
    cases hk9
    replace hf : lb_X11_forgetWays_2  x1 h = some z := hf
    unfold lb_X11_forgetWays_2 at hf
    refine go_iload_n hC dX11_forgetWays_2 rfl 1 rfl ?_
    refine go_bipush hC dX11_forgetWays_3 k8_6 ?_
    refine go_icmp_ge hC dX11_forgetWays_5 (tgt := 21) (by decide) (fun c_8 => ?_) (fun c_8 => ?_)
    · replace hf := if_t c_8 hf
      obtain rfl := so_1 hf
      obtain rfl := lp_x hy
      refine go_sub [0] rfl ?_
      exact hk
    · replace hf := if_f c_8 hf
      refine go_aload_n hC dX11_forgetWays_8 rfl 0 rfl ?_
      refine go_getr hC (j := 4) (idx := 41) (nm := "ways") (ds := "[LLampWays$Chain;") (b_0 _) rfl rfl hn11 (Nat.le_of_ble_eq_true rfl) rfl rfl (List.mem_cons_of_mem _ (List.mem_append_left _ (List.mem_of_getElem? (i := 0) rfl))) (Or.inl rfl) dX11_forgetWays_9 ?_
      refine go_iload_n hC dX11_forgetWays_12 rfl 1 rfl ?_
      refine go_null hC dX11_forgetWays_13 ?_
      obtain ⟨g_5, hf⟩ := ga_e hf
      obtain ⟨h_6, eh_6, hf⟩ := lt_e hf
      refine go_aastN hC (b_22 _) g_5 dX11_forgetWays_14 ?_
      refine go_toph eh_6 ?_
      obtain ⟨x1_7, ex1_7, hf⟩ := lt_e hf
      refine go_iinc hC dX11_forgetWays_15 1 rfl k1_1 ex1_7 (Nat.le_of_ble_eq_true rfl) rfl ?_
      refine go_goto hC dX11_forgetWays_18 (tgt := 2) (by decide) ?_
      obtain rfl := so_1 hf
      refine go_sub [1, 0] rfl ?_
      exact ih x1_7 h_6 _ (lp_c hy) hk
theorem e_X11_forgetWays : yX11_forgetWays.cls = RX11 ∧ yX11_forgetWays.cls ≠ "java/lang/invoke/MethodHandle" ∧ yX11_forgetWays.cls ≠ "java/lang/invoke/VarHandle" ∧ (parseMethodDescriptor yX11_forgetWays.desc).map (fun d => d.parameters.length) = some 0 := by decide +kernel
set_option maxRecDepth 100000 in
set_option maxHeartbeats 4000000 in
theorem c_X11_forgetWays (h : PH) (h2 : PH) (hf : f_X11_forgetWays h = some ((), h2)) : Con yX11_forgetWays wsX11_forgetWays (rm_d 0) l0_B [.ref 0] h none h2 := by
  have hn11 : ∀ w ∈ wsX110, w ∈ wsX11_forgetWays := (fun _ hw => (List.mem_cons_of_mem _ (List.mem_append_right _ hw)))
  refine con_v (cc := cX11_forgetWays) (nL := 2) (by decide) rfl (Nat.le_of_ble_eq_true rfl) ?_
  intro C hC hret
  change Go l0_B C 0 0 0 [(0, .ref 0)] [] h
  unfold f_X11_forgetWays at hf
  refine go_iconst hC dX11_forgetWays_0 k1_0 ?_
  refine go_istore_n hC dX11_forgetWays_1 rfl (Nat.le_of_ble_eq_true rfl) rfl ?_
  obtain ⟨s_9, hl, hf⟩ := bd_e1 hf
  refine go_sub [1, 0] rfl ?_
  refine lw_X11_forgetWays_2 hC  _ 0 h s_9 hl ?_
  refine go_aload_n hC dX11_forgetWays_21 rfl 0 rfl ?_
  refine go_iconst hC dX11_forgetWays_22 k1_0 ?_
  obtain ⟨h_10, eh_10, hf⟩ := lt_e hf
  refine go_puti hC tyX11 (j := 5) (idx := 199) (nm := "waysEver") (ds := "I") (b_0 _) rfl rfl hn11 tyX11_ok nmX11 (Nat.le_of_ble_eq_true rfl) rfl rfl (List.mem_cons_of_mem _ (List.mem_append_left _ (List.mem_of_getElem? (i := 1) rfl))) (Or.inl rfl) rfl (tyX11_ok _ (Nat.le_of_ble_eq_true rfl)) dX11_forgetWays_23 ?_
  refine go_toph eh_10 ?_
  obtain ⟨-, rfl⟩ := so_2 hf
  exact hret _ _ dX11_forgetWays_26
def f_X11_house (x1 : Int32) (x2 : Int32) (x3 : Int32) (x4 : Int32) (h : PH) : Option (Int32 × PH) :=
  lt_b (ph_i h 0 11 0) fun h_1 =>
  bd_1 (f_X8_isSheet x1 h_1) fun r_2 =>
  if r_2 = 0 then (
  some ((-1), h_1))
  else (
  bd_1 (f_X8_isLane x2 h_1) fun r_3 =>
  if r_3 = 0 then (
  some ((-2), h_1))
  else (
  bd_1 (f_X8_faultOfCells x1 x2 x3 x4 h_1) fun r_4 =>
  if r_4 = 0 then (
  bd_1 (f_X8_spot x1 x3 h_1) fun r_5 =>
  bd_2 (f_X10_isRead r_5 x4 h_1) fun r_6 h_7 =>
  if r_6 = 0 then (
  bd_1 (f_X10_firstFault h_7) fun r_14 =>
  some ((-100) - r_14, h_7))
  else (
  bd_2 (f_X3_take h_7) fun r_8 h_9 =>
  lt_b (ph_i h_9 17 0 0) fun h_10 =>
  lt_b (ph_i h_10 37 0 0) fun h_11 =>
  bd_2 (f_X11_forgetWays h_11) fun r_12 h_13 =>
  some (h_13.1 10 2, h_13)))
  else (
  bd_2 (f_X11_faulty r_4 h_1) fun r_16 h_17 =>
  some (r_16, h_17))))
theorem e_X11_house : yX11_house.cls = RX11 ∧ yX11_house.cls ≠ "java/lang/invoke/MethodHandle" ∧ yX11_house.cls ≠ "java/lang/invoke/VarHandle" ∧ (parseMethodDescriptor yX11_house.desc).map (fun d => d.parameters.length) = some 4 := by decide +kernel
set_option maxRecDepth 100000 in
set_option maxHeartbeats 4000000 in
theorem c_X11_house (x1 : Int32) (x2 : Int32) (x3 : Int32) (x4 : Int32) (h : PH) (h2 : PH) (r : Int32) (hf : f_X11_house x1 x2 x3 x4 h = some (r, h2)) : Con yX11_house wsX11_house (rm_d 6) l0_B [.ref 0, .int x1, .int x2, .int x3, .int x4] h (some (.int r)) h2 := by
  have hn11 : ∀ w ∈ wsX110, w ∈ wsX11_house := (fun _ hw => (List.mem_cons_of_mem _ (List.mem_append_left _ (List.mem_append_left _ (List.mem_append_left _ (List.mem_append_left _ (List.mem_append_left _ (List.mem_append_right _ hw))))))))
  have hn3 : ∀ w ∈ wsX30, w ∈ wsX11_house := (fun _ hw => (List.mem_cons_of_mem _ (List.mem_append_left _ (List.mem_append_right _ hw))))
  have hn4 : ∀ w ∈ wsX40, w ∈ wsX11_house := (fun _ hw => (List.mem_cons_of_mem _ (List.mem_append_left _ (List.mem_append_left _ (List.mem_append_right _ hw)))))
  have hn6 : ∀ w ∈ wsX60, w ∈ wsX11_house := (fun _ hw => (List.mem_cons_of_mem _ (List.mem_append_left _ (List.mem_append_left _ (List.mem_append_left _ (List.mem_append_right _ hw))))))
  have hn8 : ∀ w ∈ wsX80, w ∈ wsX11_house := (fun _ hw => (List.mem_cons_of_mem _ (List.mem_append_left _ (List.mem_append_left _ (List.mem_append_left _ (List.mem_append_left _ (List.mem_append_right _ hw)))))))
  refine con_i (ty := .int) (cc := cX11_house) (nL := 6) (by decide) rfl (Nat.le_of_ble_eq_true rfl) ?_
  intro C hC hret
  change Go l0_B C 0 0 0 [(0, .ref 0), (1, .int x1), (2, .int x2), (3, .int x3), (4, .int x4)] [] h
  unfold f_X11_house at hf
  refine go_aload_n hC dX11_house_0 rfl 0 rfl ?_
  refine go_iconst hC dX11_house_1 k1_0 ?_
  obtain ⟨h_1, eh_1, hf⟩ := lt_e hf
  refine go_puti hC tyX11 (j := 11) (idx := 77) (nm := "latestFault") (ds := "I") (b_0 _) rfl rfl hn11 tyX11_ok nmX11 (Nat.le_of_ble_eq_true rfl) rfl rfl (List.mem_cons_of_mem _ (List.mem_append_left _ (List.mem_append_left _ (List.mem_append_left _ (List.mem_append_left _ (List.mem_append_left _ (List.mem_append_left _ (List.mem_append_left _ (List.mem_of_getElem? (i := 0) rfl))))))))) (Or.inl rfl) rfl (tyX11_ok _ (Nat.le_of_ble_eq_true rfl)) dX11_house_2 ?_
  refine go_toph eh_1 ?_
  refine go_iload_n hC dX11_house_5 rfl 1 rfl ?_
  obtain ⟨r_2, hc, hf⟩ := bd_e1 hf
  refine go_callS hC (c_X8_isSheet x1 h_1 r_2 hc) gX11_house_X8_isSheet rfl ⟨rfl, rfl⟩ 1 e_X8_isSheet ⟨Nat.le_of_ble_eq_true rfl, Nat.le_of_ble_eq_true rfl⟩ rfl (st := []) (st1 := [.int r_2]) rfl rfl (Nat.le_of_ble_eq_true rfl) ⟨Nat.zero_le _, Nat.zero_le _⟩ dX11_house_6 ?_
  refine go_if_ne hC dX11_house_9 (tgt := 14) (by decide) (fun c_20 => ?_) (fun c_20 => ?_)
  · replace hf := if_f c_20 hf
    refine go_iload_n hC dX11_house_14 rfl 2 rfl ?_
    obtain ⟨r_3, hc, hf⟩ := bd_e1 hf
    refine go_callS hC (c_X8_isLane x2 h_1 r_3 hc) gX11_house_X8_isLane rfl ⟨rfl, rfl⟩ 1 e_X8_isLane ⟨Nat.le_of_ble_eq_true rfl, Nat.le_of_ble_eq_true rfl⟩ rfl (st := []) (st1 := [.int r_3]) rfl rfl (Nat.le_of_ble_eq_true rfl) ⟨Nat.zero_le _, Nat.zero_le _⟩ dX11_house_15 ?_
    refine go_if_ne hC dX11_house_18 (tgt := 24) (by decide) (fun c_19 => ?_) (fun c_19 => ?_)
    · replace hf := if_f c_19 hf
      refine go_aload_n hC dX11_house_24 rfl 0 rfl ?_
      refine go_getr hC (j := 0) (idx := 12) (nm := "sheets") (ds := "LLampWays$Sheets;") (b_0 _) rfl rfl hn11 (Nat.le_of_ble_eq_true rfl) rfl rfl (List.mem_cons_of_mem _ (List.mem_append_left _ (List.mem_append_left _ (List.mem_append_left _ (List.mem_append_left _ (List.mem_append_left _ (List.mem_append_left _ (List.mem_append_left _ (List.mem_of_getElem? (i := 1) rfl))))))))) (Or.inl rfl) dX11_house_25 ?_
      refine go_iload_n hC dX11_house_28 rfl 1 rfl ?_
      refine go_iload_n hC dX11_house_29 rfl 2 rfl ?_
      refine go_iload_n hC dX11_house_30 rfl 3 rfl ?_
      refine go_iload hC dX11_house_31 4 rfl ?_
      obtain ⟨r_4, hc, hf⟩ := bd_e1 hf
      refine go_callV hC (c_X8_faultOfCells x1 x2 x3 x4 h_1 r_4 hc) gX11_house_X8_faultOfCells rfl ⟨rfl, rfl⟩ 4 e_X8_faultOfCells ⟨Nat.le_of_ble_eq_true rfl, Nat.le_of_ble_eq_true rfl⟩ (b_1 _) rfl rfl (st := []) (st1 := [.int r_4]) rfl rfl (Nat.le_of_ble_eq_true rfl) ⟨Nat.zero_le _, Nat.zero_le _⟩ dX11_house_33 ?_
      refine go_istore hC dX11_house_36 (Nat.le_of_ble_eq_true rfl) rfl ?_
      refine go_iload hC dX11_house_38 0 rfl ?_
      refine go_if_eq hC dX11_house_40 (tgt := 50) (by decide) (fun c_18 => ?_) (fun c_18 => ?_)
      · replace hf := if_t c_18 hf
        refine go_aload_n hC dX11_house_50 rfl 1 rfl ?_
        refine go_getr hC (j := 1) (idx := 21) (nm := "text") (ds := "LLampWays$Text;") (b_0 _) rfl rfl hn11 (Nat.le_of_ble_eq_true rfl) rfl rfl (List.mem_cons_of_mem _ (List.mem_append_left _ (List.mem_append_left _ (List.mem_append_left _ (List.mem_append_left _ (List.mem_append_left _ (List.mem_append_left _ (List.mem_append_left _ (List.mem_of_getElem? (i := 2) rfl))))))))) (Or.inl rfl) dX11_house_51 ?_
        refine go_aload_n hC dX11_house_54 rfl 1 rfl ?_
        refine go_getr hC (j := 0) (idx := 12) (nm := "sheets") (ds := "LLampWays$Sheets;") (b_0 _) rfl rfl hn11 (Nat.le_of_ble_eq_true rfl) rfl rfl (List.mem_cons_of_mem _ (List.mem_append_left _ (List.mem_append_left _ (List.mem_append_left _ (List.mem_append_left _ (List.mem_append_left _ (List.mem_append_left _ (List.mem_append_left _ (List.mem_of_getElem? (i := 1) rfl))))))))) (Or.inl rfl) dX11_house_55 ?_
        refine go_getr hC (j := 2) (idx := 96) (nm := "cells") (ds := "[I") (b_1 _) rfl rfl hn8 (Nat.le_of_ble_eq_true rfl) rfl rfl (List.mem_cons_of_mem _ (List.mem_append_left _ (List.mem_append_left _ (List.mem_append_left _ (List.mem_append_left _ (List.mem_append_left _ (List.mem_append_left _ (List.mem_append_left _ (List.mem_of_getElem? (i := 3) rfl))))))))) (Or.inl rfl) dX11_house_58 ?_
        refine go_iload_n hC dX11_house_61 rfl 2 rfl ?_
        refine go_iload_n hC dX11_house_62 rfl 4 rfl ?_
        obtain ⟨r_5, hc, hf⟩ := bd_e1 hf
        refine go_callS hC (c_X8_spot x1 x3 h_1 r_5 hc) gX11_house_X8_spot rfl ⟨rfl, rfl⟩ 2 e_X8_spot ⟨Nat.le_of_ble_eq_true rfl, Nat.le_of_ble_eq_true rfl⟩ rfl (st := [.ref 4, .ref 5]) (st1 := [.int r_5, .ref 4, .ref 5]) rfl rfl (Nat.le_of_ble_eq_true rfl) ⟨Nat.zero_le _, Nat.zero_le _⟩ dX11_house_63 ?_
        refine go_iload hC dX11_house_66 5 rfl ?_
        obtain ⟨r_6, h_7, hc, hf⟩ := bd_e2 hf
        refine go_callV hC (c_X10_isRead r_5 x4 h_1 h_7 r_6 hc) gX11_house_X10_isRead rfl ⟨rfl, rfl⟩ 3 e_X10_isRead ⟨Nat.le_of_ble_eq_true rfl, Nat.le_of_ble_eq_true rfl⟩ (b_5 _) rfl rfl (st := []) (st1 := [.int r_6]) rfl rfl (Nat.le_of_ble_eq_true rfl) ⟨Nat.zero_le _, Nat.zero_le _⟩ dX11_house_68 ?_
        refine go_if_ne hC dX11_house_71 (tgt := 85) (by decide) (fun c_15 => ?_) (fun c_15 => ?_)
        · replace hf := if_f c_15 hf
          refine go_aload_n hC dX11_house_85 rfl 1 rfl ?_
          refine go_getr hC (j := 2) (idx := 28) (nm := "plot") (ds := "LLampWays$House;") (b_0 _) rfl rfl hn11 (Nat.le_of_ble_eq_true rfl) rfl rfl (List.mem_cons_of_mem _ (List.mem_append_left _ (List.mem_append_left _ (List.mem_append_left _ (List.mem_append_left _ (List.mem_append_left _ (List.mem_append_left _ (List.mem_append_left _ (List.mem_of_getElem? (i := 4) rfl))))))))) (Or.inl rfl) dX11_house_86 ?_
          refine go_aload_n hC dX11_house_89 rfl 1 rfl ?_
          refine go_getr hC (j := 1) (idx := 21) (nm := "text") (ds := "LLampWays$Text;") (b_0 _) rfl rfl hn11 (Nat.le_of_ble_eq_true rfl) rfl rfl (List.mem_cons_of_mem _ (List.mem_append_left _ (List.mem_append_left _ (List.mem_append_left _ (List.mem_append_left _ (List.mem_append_left _ (List.mem_append_left _ (List.mem_append_left _ (List.mem_of_getElem? (i := 2) rfl))))))))) (Or.inl rfl) dX11_house_90 ?_
          obtain ⟨r_8, h_9, hc, hf⟩ := bd_e2 hf
          refine go_callV hC (c_X3_take h_7 h_9 hc) gX11_house_X3_take rfl ⟨rfl, rfl⟩ 1 e_X3_take ⟨Nat.le_of_ble_eq_true rfl, Nat.le_of_ble_eq_true rfl⟩ (b_10 _) rfl rfl (st := []) (st1 := []) rfl rfl (Nat.le_of_ble_eq_true rfl) ⟨Nat.zero_le _, Nat.zero_le _⟩ dX11_house_93 ?_
          refine go_aload_n hC dX11_house_96 rfl 1 rfl ?_
          refine go_getr hC (j := 3) (idx := 35) (nm := "points") (ds := "LLampWays$Points;") (b_0 _) rfl rfl hn11 (Nat.le_of_ble_eq_true rfl) rfl rfl (List.mem_cons_of_mem _ (List.mem_append_left _ (List.mem_append_left _ (List.mem_append_left _ (List.mem_append_left _ (List.mem_append_left _ (List.mem_append_left _ (List.mem_append_left _ (List.mem_of_getElem? (i := 5) rfl))))))))) (Or.inl rfl) dX11_house_97 ?_
          refine go_iconst hC dX11_house_100 k1_0 ?_
          obtain ⟨h_10, eh_10, hf⟩ := lt_e hf
          refine go_puti hC tyX6 (j := 0) (idx := 115) (nm := "count") (ds := "I") (b_17 _) rfl rfl hn6 tyX6_ok nmX6 (Nat.le_of_ble_eq_true rfl) rfl rfl (List.mem_cons_of_mem _ (List.mem_append_left _ (List.mem_append_left _ (List.mem_append_left _ (List.mem_append_left _ (List.mem_append_left _ (List.mem_append_left _ (List.mem_append_left _ (List.mem_of_getElem? (i := 6) rfl))))))))) (Or.inl rfl) rfl (tyX6_ok _ (Nat.le_of_ble_eq_true rfl)) dX11_house_101 ?_
          refine go_toph eh_10 ?_
          refine go_aload_n hC dX11_house_104 rfl 1 rfl ?_
          refine go_getr hC (j := 9) (idx := 69) (nm := "meter") (ds := "LLampWays$Meter;") (b_0 _) rfl rfl hn11 (Nat.le_of_ble_eq_true rfl) rfl rfl (List.mem_cons_of_mem _ (List.mem_append_left _ (List.mem_append_left _ (List.mem_append_left _ (List.mem_append_left _ (List.mem_append_left _ (List.mem_append_left _ (List.mem_append_left _ (List.mem_of_getElem? (i := 7) rfl))))))))) (Or.inl rfl) dX11_house_105 ?_
          refine go_iconst hC dX11_house_108 k1_0 ?_
          obtain ⟨h_11, eh_11, hf⟩ := lt_e hf
          refine go_puti hC tyX4 (j := 0) (idx := 118) (nm := "count") (ds := "I") (b_37 _) rfl rfl hn4 tyX4_ok nmX4 (Nat.le_of_ble_eq_true rfl) rfl rfl (List.mem_cons_of_mem _ (List.mem_append_left _ (List.mem_append_left _ (List.mem_append_left _ (List.mem_append_left _ (List.mem_append_left _ (List.mem_append_left _ (List.mem_append_left _ (List.mem_of_getElem? (i := 8) rfl))))))))) (Or.inl rfl) rfl (tyX4_ok _ (Nat.le_of_ble_eq_true rfl)) dX11_house_109 ?_
          refine go_toph eh_11 ?_
          refine go_aload_n hC dX11_house_112 rfl 1 rfl ?_
          obtain ⟨r_12, h_13, hc, hf⟩ := bd_e2 hf
          refine go_callV hC (c_X11_forgetWays h_11 h_13 hc) gX11_house_X11_forgetWays rfl ⟨rfl, rfl⟩ 0 e_X11_forgetWays ⟨Nat.le_of_ble_eq_true rfl, Nat.le_of_ble_eq_true rfl⟩ (b_0 _) rfl rfl (st := []) (st1 := []) rfl rfl (Nat.le_of_ble_eq_true rfl) ⟨Nat.zero_le _, Nat.zero_le _⟩ dX11_house_113 ?_
          refine go_aload_n hC dX11_house_116 rfl 1 rfl ?_
          refine go_getr hC (j := 2) (idx := 28) (nm := "plot") (ds := "LLampWays$House;") (b_0 _) rfl rfl hn11 (Nat.le_of_ble_eq_true rfl) rfl rfl (List.mem_cons_of_mem _ (List.mem_append_left _ (List.mem_append_left _ (List.mem_append_left _ (List.mem_append_left _ (List.mem_append_left _ (List.mem_append_left _ (List.mem_append_left _ (List.mem_of_getElem? (i := 4) rfl))))))))) (Or.inl rfl) dX11_house_117 ?_
          refine go_geti hC (j := 2) (idx := 122) (nm := "runs") (ds := "I") (b_10 _) rfl rfl hn3 (Nat.le_of_ble_eq_true rfl) rfl rfl (List.mem_cons_of_mem _ (List.mem_append_left _ (List.mem_append_left _ (List.mem_append_left _ (List.mem_append_left _ (List.mem_append_left _ (List.mem_append_left _ (List.mem_append_left _ (List.mem_of_getElem? (i := 9) rfl))))))))) (Or.inl rfl) dX11_house_120 ?_
          obtain ⟨rfl, rfl⟩ := so_2 hf
          exact hret _ _ rfl dX11_house_123
        · replace hf := if_t c_15 hf
          refine go_bipush hC dX11_house_74 k8_m100 ?_
          refine go_aload_n hC dX11_house_76 rfl 1 rfl ?_
          refine go_getr hC (j := 1) (idx := 21) (nm := "text") (ds := "LLampWays$Text;") (b_0 _) rfl rfl hn11 (Nat.le_of_ble_eq_true rfl) rfl rfl (List.mem_cons_of_mem _ (List.mem_append_left _ (List.mem_append_left _ (List.mem_append_left _ (List.mem_append_left _ (List.mem_append_left _ (List.mem_append_left _ (List.mem_append_left _ (List.mem_of_getElem? (i := 2) rfl))))))))) (Or.inl rfl) dX11_house_77 ?_
          obtain ⟨r_14, hc, hf⟩ := bd_e1 hf
          refine go_callV hC (c_X10_firstFault h_7 r_14 hc) gX11_house_X10_firstFault rfl ⟨rfl, rfl⟩ 0 e_X10_firstFault ⟨Nat.le_of_ble_eq_true rfl, Nat.le_of_ble_eq_true rfl⟩ (b_5 _) rfl rfl (st := [.int (-100)]) (st1 := [.int r_14, .int (-100)]) rfl rfl (Nat.le_of_ble_eq_true rfl) ⟨Nat.zero_le _, Nat.zero_le _⟩ dX11_house_80 ?_
          refine go_isub hC dX11_house_83 ?_
          obtain ⟨rfl, rfl⟩ := so_2 hf
          exact hret _ _ rfl dX11_house_84
      · replace hf := if_f c_18 hf
        refine go_aload_n hC dX11_house_43 rfl 1 rfl ?_
        refine go_iload hC dX11_house_44 0 rfl ?_
        obtain ⟨r_16, h_17, hc, hf⟩ := bd_e2 hf
        refine go_callV hC (c_X11_faulty r_4 h_1 h_17 r_16 hc) gX11_house_X11_faulty rfl ⟨rfl, rfl⟩ 1 e_X11_faulty ⟨Nat.le_of_ble_eq_true rfl, Nat.le_of_ble_eq_true rfl⟩ (b_0 _) rfl rfl (st := []) (st1 := [.int r_16]) rfl rfl (Nat.le_of_ble_eq_true rfl) ⟨Nat.zero_le _, Nat.zero_le _⟩ dX11_house_46 ?_
        obtain ⟨rfl, rfl⟩ := so_2 hf
        exact hret _ _ rfl dX11_house_49
    · replace hf := if_t c_19 hf
      refine go_bipush hC dX11_house_21 k8_m2 ?_
      obtain ⟨rfl, rfl⟩ := so_2 hf
      exact hret _ _ rfl dX11_house_23
  · replace hf := if_t c_20 hf
    refine go_iconst hC dX11_house_12 k1_m1 ?_
    obtain ⟨rfl, rfl⟩ := so_2 hf
    exact hret _ _ rfl dX11_house_13
def f_X11_ofRun (x1 : Int32) (x2 : Int32) (h : PH) : Option (Int32) :=
  bd_1 (f_X3_isRun x1 h) fun r_1 =>
  if r_1 = 0 then (
  some (-1))
  else (
  if x2 = 0 then (
  ga_i x1 14 (
  some (h.1 11 x1.toNatClampNeg)))
  else (
  if x2 = 1 then (
  ga_i x1 14 (
  some (h.1 12 x1.toNatClampNeg)))
  else (
  if x2 = 2 then (
  ga_i x1 14 (
  some (h.1 13 x1.toNatClampNeg)))
  else (
  if x2 = 3 then (
  ga_i x1 14 (
  some (h.1 14 x1.toNatClampNeg)))
  else (
  if x2 = 4 then (
  ga_i x1 14 (
  if (h.1 15 x1.toNatClampNeg) = 0 then (
  some 0)
  else (
  some 1)))
  else (
  some (-2)))))))
theorem e_X11_ofRun : yX11_ofRun.cls = RX11 ∧ yX11_ofRun.cls ≠ "java/lang/invoke/MethodHandle" ∧ yX11_ofRun.cls ≠ "java/lang/invoke/VarHandle" ∧ (parseMethodDescriptor yX11_ofRun.desc).map (fun d => d.parameters.length) = some 2 := by decide +kernel
set_option maxRecDepth 100000 in
set_option maxHeartbeats 4000000 in
theorem c_X11_ofRun (x1 : Int32) (x2 : Int32) (h : PH) (r : Int32) (hf : f_X11_ofRun x1 x2 h = some r) : Con yX11_ofRun wsX11_ofRun (rm_d 1) l0_B [.ref 0, .int x1, .int x2] h (some (.int r)) h := by
  have hn11 : ∀ w ∈ wsX110, w ∈ wsX11_ofRun := (fun _ hw => (List.mem_cons_of_mem _ (List.mem_append_left _ (List.mem_append_right _ hw))))
  have hn3 : ∀ w ∈ wsX30, w ∈ wsX11_ofRun := (fun _ hw => (List.mem_cons_of_mem _ (List.mem_append_right _ hw)))
  refine con_i (ty := .int) (cc := cX11_ofRun) (nL := 3) (by decide) rfl (Nat.le_of_ble_eq_true rfl) ?_
  intro C hC hret
  change Go l0_B C 0 0 0 [(0, .ref 0), (1, .int x1), (2, .int x2)] [] h
  unfold f_X11_ofRun at hf
  refine go_aload_n hC dX11_ofRun_0 rfl 0 rfl ?_
  refine go_getr hC (j := 2) (idx := 28) (nm := "plot") (ds := "LLampWays$House;") (b_0 _) rfl rfl hn11 (Nat.le_of_ble_eq_true rfl) rfl rfl (List.mem_cons_of_mem _ (List.mem_append_left _ (List.mem_append_left _ (List.mem_of_getElem? (i := 0) rfl)))) (Or.inl rfl) dX11_ofRun_1 ?_
  refine go_iload_n hC dX11_ofRun_4 rfl 1 rfl ?_
  obtain ⟨r_1, hc, hf⟩ := bd_e1 hf
  refine go_callV hC (c_X3_isRun x1 h r_1 hc) gX11_ofRun_X3_isRun rfl ⟨rfl, rfl⟩ 1 e_X3_isRun ⟨Nat.le_of_ble_eq_true rfl, Nat.le_of_ble_eq_true rfl⟩ (b_10 _) rfl rfl (st := []) (st1 := [.int r_1]) rfl rfl (Nat.le_of_ble_eq_true rfl) ⟨Nat.zero_le _, Nat.zero_le _⟩ dX11_ofRun_5 ?_
  refine go_if_ne hC dX11_ofRun_8 (tgt := 13) (by decide) (fun c_13 => ?_) (fun c_13 => ?_)
  · replace hf := if_f c_13 hf
    refine go_iload_n hC dX11_ofRun_13 rfl 2 rfl ?_
    by_cases c_2 : x2 = 0
    · replace hf := if_t c_2 hf
      refine go_tab hC dX11_ofRun_14 c_2 (off := 34) (by decide) (by decide) (by decide) (tgt := 48) (by decide) ?_
      refine go_aload_n hC dX11_ofRun_48 rfl 0 rfl ?_
      refine go_getr hC (j := 2) (idx := 28) (nm := "plot") (ds := "LLampWays$House;") (b_0 _) rfl rfl hn11 (Nat.le_of_ble_eq_true rfl) rfl rfl (List.mem_cons_of_mem _ (List.mem_append_left _ (List.mem_append_left _ (List.mem_of_getElem? (i := 0) rfl)))) (Or.inl rfl) dX11_ofRun_49 ?_
      refine go_getr hC (j := 3) (idx := 128) (nm := "from") (ds := "[I") (b_10 _) rfl rfl hn3 (Nat.le_of_ble_eq_true rfl) rfl rfl (List.mem_cons_of_mem _ (List.mem_append_left _ (List.mem_append_left _ (List.mem_of_getElem? (i := 1) rfl)))) (Or.inl rfl) dX11_ofRun_52 ?_
      refine go_iload_n hC dX11_ofRun_55 rfl 1 rfl ?_
      obtain ⟨g_7, hf⟩ := ga_e hf
      refine go_iald hC (b_11 _) g_7 dX11_ofRun_56 ?_
      obtain rfl := so_1 hf
      exact hret _ _ rfl dX11_ofRun_57
    · replace hf := if_f c_2 hf
      by_cases c_3 : x2 = 1
      · replace hf := if_t c_3 hf
        refine go_tab hC dX11_ofRun_14 c_3 (off := 44) (by decide) (by decide) (by decide) (tgt := 58) (by decide) ?_
        refine go_aload_n hC dX11_ofRun_58 rfl 0 rfl ?_
        refine go_getr hC (j := 2) (idx := 28) (nm := "plot") (ds := "LLampWays$House;") (b_0 _) rfl rfl hn11 (Nat.le_of_ble_eq_true rfl) rfl rfl (List.mem_cons_of_mem _ (List.mem_append_left _ (List.mem_append_left _ (List.mem_of_getElem? (i := 0) rfl)))) (Or.inl rfl) dX11_ofRun_59 ?_
        refine go_getr hC (j := 4) (idx := 131) (nm := "to") (ds := "[I") (b_10 _) rfl rfl hn3 (Nat.le_of_ble_eq_true rfl) rfl rfl (List.mem_cons_of_mem _ (List.mem_append_left _ (List.mem_append_left _ (List.mem_of_getElem? (i := 2) rfl)))) (Or.inl rfl) dX11_ofRun_62 ?_
        refine go_iload_n hC dX11_ofRun_65 rfl 1 rfl ?_
        obtain ⟨g_8, hf⟩ := ga_e hf
        refine go_iald hC (b_12 _) g_8 dX11_ofRun_66 ?_
        obtain rfl := so_1 hf
        exact hret _ _ rfl dX11_ofRun_67
      · replace hf := if_f c_3 hf
        by_cases c_4 : x2 = 2
        · replace hf := if_t c_4 hf
          refine go_tab hC dX11_ofRun_14 c_4 (off := 54) (by decide) (by decide) (by decide) (tgt := 68) (by decide) ?_
          refine go_aload_n hC dX11_ofRun_68 rfl 0 rfl ?_
          refine go_getr hC (j := 2) (idx := 28) (nm := "plot") (ds := "LLampWays$House;") (b_0 _) rfl rfl hn11 (Nat.le_of_ble_eq_true rfl) rfl rfl (List.mem_cons_of_mem _ (List.mem_append_left _ (List.mem_append_left _ (List.mem_of_getElem? (i := 0) rfl)))) (Or.inl rfl) dX11_ofRun_69 ?_
          refine go_getr hC (j := 5) (idx := 134) (nm := "yards") (ds := "[I") (b_10 _) rfl rfl hn3 (Nat.le_of_ble_eq_true rfl) rfl rfl (List.mem_cons_of_mem _ (List.mem_append_left _ (List.mem_append_left _ (List.mem_of_getElem? (i := 3) rfl)))) (Or.inl rfl) dX11_ofRun_72 ?_
          refine go_iload_n hC dX11_ofRun_75 rfl 1 rfl ?_
          obtain ⟨g_9, hf⟩ := ga_e hf
          refine go_iald hC (b_13 _) g_9 dX11_ofRun_76 ?_
          obtain rfl := so_1 hf
          exact hret _ _ rfl dX11_ofRun_77
        · replace hf := if_f c_4 hf
          by_cases c_5 : x2 = 3
          · replace hf := if_t c_5 hf
            refine go_tab hC dX11_ofRun_14 c_5 (off := 64) (by decide) (by decide) (by decide) (tgt := 78) (by decide) ?_
            refine go_aload_n hC dX11_ofRun_78 rfl 0 rfl ?_
            refine go_getr hC (j := 2) (idx := 28) (nm := "plot") (ds := "LLampWays$House;") (b_0 _) rfl rfl hn11 (Nat.le_of_ble_eq_true rfl) rfl rfl (List.mem_cons_of_mem _ (List.mem_append_left _ (List.mem_append_left _ (List.mem_of_getElem? (i := 0) rfl)))) (Or.inl rfl) dX11_ofRun_79 ?_
            refine go_getr hC (j := 6) (idx := 137) (nm := "drilled") (ds := "[I") (b_10 _) rfl rfl hn3 (Nat.le_of_ble_eq_true rfl) rfl rfl (List.mem_cons_of_mem _ (List.mem_append_left _ (List.mem_append_left _ (List.mem_of_getElem? (i := 4) rfl)))) (Or.inl rfl) dX11_ofRun_82 ?_
            refine go_iload_n hC dX11_ofRun_85 rfl 1 rfl ?_
            obtain ⟨g_10, hf⟩ := ga_e hf
            refine go_iald hC (b_14 _) g_10 dX11_ofRun_86 ?_
            obtain rfl := so_1 hf
            exact hret _ _ rfl dX11_ofRun_87
          · replace hf := if_f c_5 hf
            by_cases c_6 : x2 = 4
            · replace hf := if_t c_6 hf
              refine go_tab hC dX11_ofRun_14 c_6 (off := 74) (by decide) (by decide) (by decide) (tgt := 88) (by decide) ?_
              refine go_aload_n hC dX11_ofRun_88 rfl 0 rfl ?_
              refine go_getr hC (j := 2) (idx := 28) (nm := "plot") (ds := "LLampWays$House;") (b_0 _) rfl rfl hn11 (Nat.le_of_ble_eq_true rfl) rfl rfl (List.mem_cons_of_mem _ (List.mem_append_left _ (List.mem_append_left _ (List.mem_of_getElem? (i := 0) rfl)))) (Or.inl rfl) dX11_ofRun_89 ?_
              refine go_getr hC (j := 7) (idx := 140) (nm := "closed") (ds := "[Z") (b_10 _) rfl rfl hn3 (Nat.le_of_ble_eq_true rfl) rfl rfl (List.mem_cons_of_mem _ (List.mem_append_left _ (List.mem_append_left _ (List.mem_of_getElem? (i := 5) rfl)))) (Or.inl rfl) dX11_ofRun_92 ?_
              refine go_iload_n hC dX11_ofRun_95 rfl 1 rfl ?_
              obtain ⟨g_11, hf⟩ := ga_e hf
              refine go_zald hC (b_15 _) g_11 dX11_ofRun_96 ?_
              refine go_if_eq hC dX11_ofRun_97 (tgt := 104) (by decide) (fun c_12 => ?_) (fun c_12 => ?_)
              · replace hf := if_t c_12 hf
                refine go_iconst hC dX11_ofRun_104 k1_0 ?_
                obtain rfl := so_1 hf
                exact hret _ _ rfl dX11_ofRun_105
              · replace hf := if_f c_12 hf
                refine go_iconst hC dX11_ofRun_100 k1_1 ?_
                refine go_goto hC dX11_ofRun_101 (tgt := 105) (by decide) ?_
                obtain rfl := so_1 hf
                exact hret _ _ rfl dX11_ofRun_105
            · replace hf := if_f c_6 hf
              refine go_tabOut hC dX11_ofRun_14 (tb_5 c_2 c_3 c_4 c_5 c_6) (tgt := 106) (by decide) ?_
              refine go_bipush hC dX11_ofRun_106 k8_m2 ?_
              obtain rfl := so_1 hf
              exact hret _ _ rfl dX11_ofRun_108
  · replace hf := if_t c_13 hf
    refine go_iconst hC dX11_ofRun_11 k1_m1 ?_
    obtain rfl := so_1 hf
    exact hret _ _ rfl dX11_ofRun_12
def f_X11_shut (x1 : Int32) (x2 : Int32) (h : PH) : Option (Int32 × PH) :=
  bd_1 (f_X3_isRun x1 h) fun r_1 =>
  if r_1 = 0 then (
  some ((-1), h))
  else (
  ga_i x1 14 (
  if (h.1 15 x1.toNatClampNeg) = x2 then (
  some (0, h))
  else (
  bd_2 (f_X3_close x1 x2 h) fun r_3 h_4 =>
  some (1, h_4))))
theorem e_X11_shut : yX11_shut.cls = RX11 ∧ yX11_shut.cls ≠ "java/lang/invoke/MethodHandle" ∧ yX11_shut.cls ≠ "java/lang/invoke/VarHandle" ∧ (parseMethodDescriptor yX11_shut.desc).map (fun d => d.parameters.length) = some 2 := by decide +kernel
set_option maxRecDepth 100000 in
set_option maxHeartbeats 4000000 in
theorem c_X11_shut (x1 : Int32) (x2 : Int32) (h : PH) (h2 : PH) (r : Int32) (hf : f_X11_shut x1 x2 h = some (r, h2)) : Con yX11_shut wsX11_shut (rm_d 3) l0_B [.ref 0, .int x1, .int x2] h (some (.int r)) h2 := by
  have hn11 : ∀ w ∈ wsX110, w ∈ wsX11_shut := (fun _ hw => (List.mem_cons_of_mem _ (List.mem_append_left _ (List.mem_append_right _ hw))))
  have hn3 : ∀ w ∈ wsX30, w ∈ wsX11_shut := (fun _ hw => (List.mem_cons_of_mem _ (List.mem_append_right _ hw)))
  refine con_i (ty := .int) (cc := cX11_shut) (nL := 3) (by decide) rfl (Nat.le_of_ble_eq_true rfl) ?_
  intro C hC hret
  change Go l0_B C 0 0 0 [(0, .ref 0), (1, .int x1), (2, .int x2)] [] h
  unfold f_X11_shut at hf
  refine go_aload_n hC dX11_shut_0 rfl 0 rfl ?_
  refine go_getr hC (j := 2) (idx := 28) (nm := "plot") (ds := "LLampWays$House;") (b_0 _) rfl rfl hn11 (Nat.le_of_ble_eq_true rfl) rfl rfl (List.mem_cons_of_mem _ (List.mem_append_left _ (List.mem_append_left _ (List.mem_append_left _ (List.mem_of_getElem? (i := 0) rfl))))) (Or.inl rfl) dX11_shut_1 ?_
  refine go_iload_n hC dX11_shut_4 rfl 1 rfl ?_
  obtain ⟨r_1, hc, hf⟩ := bd_e1 hf
  refine go_callV hC (c_X3_isRun x1 h r_1 hc) gX11_shut_X3_isRun rfl ⟨rfl, rfl⟩ 1 e_X3_isRun ⟨Nat.le_of_ble_eq_true rfl, Nat.le_of_ble_eq_true rfl⟩ (b_10 _) rfl rfl (st := []) (st1 := [.int r_1]) rfl rfl (Nat.le_of_ble_eq_true rfl) ⟨Nat.zero_le _, Nat.zero_le _⟩ dX11_shut_5 ?_
  refine go_if_ne hC dX11_shut_8 (tgt := 13) (by decide) (fun c_6 => ?_) (fun c_6 => ?_)
  · replace hf := if_f c_6 hf
    refine go_aload_n hC dX11_shut_13 rfl 0 rfl ?_
    refine go_getr hC (j := 2) (idx := 28) (nm := "plot") (ds := "LLampWays$House;") (b_0 _) rfl rfl hn11 (Nat.le_of_ble_eq_true rfl) rfl rfl (List.mem_cons_of_mem _ (List.mem_append_left _ (List.mem_append_left _ (List.mem_append_left _ (List.mem_of_getElem? (i := 0) rfl))))) (Or.inl rfl) dX11_shut_14 ?_
    refine go_getr hC (j := 7) (idx := 140) (nm := "closed") (ds := "[Z") (b_10 _) rfl rfl hn3 (Nat.le_of_ble_eq_true rfl) rfl rfl (List.mem_cons_of_mem _ (List.mem_append_left _ (List.mem_append_left _ (List.mem_append_left _ (List.mem_of_getElem? (i := 1) rfl))))) (Or.inl rfl) dX11_shut_17 ?_
    refine go_iload_n hC dX11_shut_20 rfl 1 rfl ?_
    obtain ⟨g_2, hf⟩ := ga_e hf
    refine go_zald hC (b_15 _) g_2 dX11_shut_21 ?_
    refine go_iload_n hC dX11_shut_22 rfl 2 rfl ?_
    refine go_icmp_ne hC dX11_shut_23 (tgt := 28) (by decide) (fun c_5 => ?_) (fun c_5 => ?_)
    · replace hf := if_f c_5 hf
      refine go_aload_n hC dX11_shut_28 rfl 0 rfl ?_
      refine go_getr hC (j := 2) (idx := 28) (nm := "plot") (ds := "LLampWays$House;") (b_0 _) rfl rfl hn11 (Nat.le_of_ble_eq_true rfl) rfl rfl (List.mem_cons_of_mem _ (List.mem_append_left _ (List.mem_append_left _ (List.mem_append_left _ (List.mem_of_getElem? (i := 0) rfl))))) (Or.inl rfl) dX11_shut_29 ?_
      refine go_iload_n hC dX11_shut_32 rfl 1 rfl ?_
      refine go_iload_n hC dX11_shut_33 rfl 2 rfl ?_
      obtain ⟨r_3, h_4, hc, hf⟩ := bd_e2 hf
      refine go_callV hC (c_X3_close x1 x2 h h_4 hc) gX11_shut_X3_close rfl ⟨rfl, rfl⟩ 2 e_X3_close ⟨Nat.le_of_ble_eq_true rfl, Nat.le_of_ble_eq_true rfl⟩ (b_10 _) rfl rfl (st := []) (st1 := []) rfl rfl (Nat.le_of_ble_eq_true rfl) ⟨Nat.zero_le _, Nat.zero_le _⟩ dX11_shut_34 ?_
      refine go_iconst hC dX11_shut_37 k1_1 ?_
      obtain ⟨rfl, rfl⟩ := so_2 hf
      exact hret _ _ rfl dX11_shut_38
    · replace hf := if_t c_5 hf
      refine go_iconst hC dX11_shut_26 k1_0 ?_
      obtain ⟨rfl, rfl⟩ := so_2 hf
      exact hret _ _ rfl dX11_shut_27
  · replace hf := if_t c_6 hf
    refine go_iconst hC dX11_shut_11 k1_m1 ?_
    obtain ⟨rfl, rfl⟩ := so_2 hf
    exact hret _ _ rfl dX11_shut_12
def f_X11_run (x1 : Int32) (x2 : Int32) (x3 : Int32) (h : PH) : Option (Int32) :=
  bd_1 (f_X3_isPlace x1 h) fun r_1 =>
  if r_1 = 0 then (
  some (-1))
  else (
  bd_1 (f_X3_isPlace x2 h) fun r_2 =>
  if r_2 = 0 then (
  some (-1))
  else (
  if x3 < 0 then (
  some (-2))
  else (
  if x3 ≤ 2 then (
  bd_1 (f_X3_isJoined x1 x2 h) fun r_3 =>
  if r_3 = 0 then (
  some (-9))
  else (
  if x3 = 0 then (
  bd_1 (f_X3_yardsFrom x1 x2 h) fun r_7 =>
  some r_7)
  else (
  if x3 = 1 then (
  bd_1 (f_X3_drilledFrom x1 x2 h) fun r_5 =>
  some r_5)
  else (
  bd_1 (f_X3_stepsFrom x1 x2 h) fun r_4 =>
  some r_4))))
  else (
  some (-2)))))
theorem e_X11_run : yX11_run.cls = RX11 ∧ yX11_run.cls ≠ "java/lang/invoke/MethodHandle" ∧ yX11_run.cls ≠ "java/lang/invoke/VarHandle" ∧ (parseMethodDescriptor yX11_run.desc).map (fun d => d.parameters.length) = some 3 := by decide +kernel
set_option maxRecDepth 100000 in
set_option maxHeartbeats 4000000 in
theorem c_X11_run (x1 : Int32) (x2 : Int32) (x3 : Int32) (h : PH) (r : Int32) (hf : f_X11_run x1 x2 x3 h = some r) : Con yX11_run wsX11_run (rm_d 3) l0_B [.ref 0, .int x1, .int x2, .int x3] h (some (.int r)) h := by
  have hn11 : ∀ w ∈ wsX110, w ∈ wsX11_run := (fun _ hw => (List.mem_cons_of_mem _ (List.mem_append_left _ (List.mem_append_right _ hw))))
  refine con_i (ty := .int) (cc := cX11_run) (nL := 4) (by decide) rfl (Nat.le_of_ble_eq_true rfl) ?_
  intro C hC hret
  change Go l0_B C 0 0 0 [(0, .ref 0), (1, .int x1), (2, .int x2), (3, .int x3)] [] h
  unfold f_X11_run at hf
  refine go_aload_n hC dX11_run_0 rfl 0 rfl ?_
  refine go_getr hC (j := 2) (idx := 28) (nm := "plot") (ds := "LLampWays$House;") (b_0 _) rfl rfl hn11 (Nat.le_of_ble_eq_true rfl) rfl rfl (List.mem_cons_of_mem _ (List.mem_append_left _ (List.mem_append_left _ (List.mem_append_left _ (List.mem_of_getElem? (i := 0) rfl))))) (Or.inl rfl) dX11_run_1 ?_
  refine go_iload_n hC dX11_run_4 rfl 1 rfl ?_
  obtain ⟨r_1, hc, hf⟩ := bd_e1 hf
  refine go_callV hC (c_X3_isPlace x1 h r_1 hc) gX11_run_X3_isPlace rfl ⟨rfl, rfl⟩ 1 e_X3_isPlace ⟨Nat.le_of_ble_eq_true rfl, Nat.le_of_ble_eq_true rfl⟩ (b_10 _) rfl rfl (st := []) (st1 := [.int r_1]) rfl rfl (Nat.le_of_ble_eq_true rfl) ⟨Nat.zero_le _, Nat.zero_le _⟩ dX11_run_5 ?_
  refine go_if_eq hC dX11_run_8 (tgt := 22) (by decide) (fun c_13 => ?_) (fun c_13 => ?_)
  · replace hf := if_t c_13 hf
    refine go_iconst hC dX11_run_22 k1_m1 ?_
    obtain rfl := so_1 hf
    exact hret _ _ rfl dX11_run_23
  · replace hf := if_f c_13 hf
    refine go_aload_n hC dX11_run_11 rfl 0 rfl ?_
    refine go_getr hC (j := 2) (idx := 28) (nm := "plot") (ds := "LLampWays$House;") (b_0 _) rfl rfl hn11 (Nat.le_of_ble_eq_true rfl) rfl rfl (List.mem_cons_of_mem _ (List.mem_append_left _ (List.mem_append_left _ (List.mem_append_left _ (List.mem_of_getElem? (i := 0) rfl))))) (Or.inl rfl) dX11_run_12 ?_
    refine go_iload_n hC dX11_run_15 rfl 2 rfl ?_
    obtain ⟨r_2, hc, hf⟩ := bd_e1 hf
    refine go_callV hC (c_X3_isPlace x2 h r_2 hc) gX11_run_X3_isPlace rfl ⟨rfl, rfl⟩ 1 e_X3_isPlace ⟨Nat.le_of_ble_eq_true rfl, Nat.le_of_ble_eq_true rfl⟩ (b_10 _) rfl rfl (st := []) (st1 := [.int r_2]) rfl rfl (Nat.le_of_ble_eq_true rfl) ⟨Nat.zero_le _, Nat.zero_le _⟩ dX11_run_16 ?_
    refine go_if_ne hC dX11_run_19 (tgt := 24) (by decide) (fun c_12 => ?_) (fun c_12 => ?_)
    · replace hf := if_f c_12 hf
      refine go_iload_n hC dX11_run_24 rfl 3 rfl ?_
      refine go_if_lt hC dX11_run_25 (tgt := 33) (by decide) (fun c_11 => ?_) (fun c_11 => ?_)
      · replace hf := if_t c_11 hf
        refine go_bipush hC dX11_run_33 k8_m2 ?_
        obtain rfl := so_1 hf
        exact hret _ _ rfl dX11_run_35
      · replace hf := if_f c_11 hf
        refine go_iload_n hC dX11_run_28 rfl 3 rfl ?_
        refine go_iconst hC dX11_run_29 k1_2 ?_
        refine go_icmp_le hC dX11_run_30 (tgt := 36) (by decide) (fun c_10 => ?_) (fun c_10 => ?_)
        · replace hf := if_t c_10 hf
          refine go_aload_n hC dX11_run_36 rfl 0 rfl ?_
          refine go_getr hC (j := 2) (idx := 28) (nm := "plot") (ds := "LLampWays$House;") (b_0 _) rfl rfl hn11 (Nat.le_of_ble_eq_true rfl) rfl rfl (List.mem_cons_of_mem _ (List.mem_append_left _ (List.mem_append_left _ (List.mem_append_left _ (List.mem_of_getElem? (i := 0) rfl))))) (Or.inl rfl) dX11_run_37 ?_
          refine go_iload_n hC dX11_run_40 rfl 1 rfl ?_
          refine go_iload_n hC dX11_run_41 rfl 2 rfl ?_
          obtain ⟨r_3, hc, hf⟩ := bd_e1 hf
          refine go_callV hC (c_X3_isJoined x1 x2 h r_3 hc) gX11_run_X3_isJoined rfl ⟨rfl, rfl⟩ 2 e_X3_isJoined ⟨Nat.le_of_ble_eq_true rfl, Nat.le_of_ble_eq_true rfl⟩ (b_10 _) rfl rfl (st := []) (st1 := [.int r_3]) rfl rfl (Nat.le_of_ble_eq_true rfl) ⟨Nat.zero_le _, Nat.zero_le _⟩ dX11_run_42 ?_
          refine go_if_ne hC dX11_run_45 (tgt := 51) (by decide) (fun c_9 => ?_) (fun c_9 => ?_)
          · replace hf := if_f c_9 hf
            refine go_iload_n hC dX11_run_51 rfl 3 rfl ?_
            refine go_if_ne hC dX11_run_52 (tgt := 65) (by decide) (fun c_8 => ?_) (fun c_8 => ?_)
            · replace hf := if_f c_8 hf
              refine go_iload_n hC dX11_run_65 rfl 3 rfl ?_
              refine go_iconst hC dX11_run_66 k1_1 ?_
              refine go_icmp_ne hC dX11_run_67 (tgt := 82) (by decide) (fun c_6 => ?_) (fun c_6 => ?_)
              · replace hf := if_f c_6 hf
                refine go_aload_n hC dX11_run_82 rfl 0 rfl ?_
                refine go_getr hC (j := 2) (idx := 28) (nm := "plot") (ds := "LLampWays$House;") (b_0 _) rfl rfl hn11 (Nat.le_of_ble_eq_true rfl) rfl rfl (List.mem_cons_of_mem _ (List.mem_append_left _ (List.mem_append_left _ (List.mem_append_left _ (List.mem_of_getElem? (i := 0) rfl))))) (Or.inl rfl) dX11_run_83 ?_
                refine go_iload_n hC dX11_run_86 rfl 1 rfl ?_
                refine go_iload_n hC dX11_run_87 rfl 2 rfl ?_
                obtain ⟨r_4, hc, hf⟩ := bd_e1 hf
                refine go_callV hC (c_X3_stepsFrom x1 x2 h r_4 hc) gX11_run_X3_stepsFrom rfl ⟨rfl, rfl⟩ 2 e_X3_stepsFrom ⟨Nat.le_of_ble_eq_true rfl, Nat.le_of_ble_eq_true rfl⟩ (b_10 _) rfl rfl (st := []) (st1 := [.int r_4]) rfl rfl (Nat.le_of_ble_eq_true rfl) ⟨Nat.zero_le _, Nat.zero_le _⟩ dX11_run_88 ?_
                obtain rfl := so_1 hf
                exact hret _ _ rfl dX11_run_91
              · replace hf := if_t c_6 hf
                refine go_aload_n hC dX11_run_70 rfl 0 rfl ?_
                refine go_getr hC (j := 2) (idx := 28) (nm := "plot") (ds := "LLampWays$House;") (b_0 _) rfl rfl hn11 (Nat.le_of_ble_eq_true rfl) rfl rfl (List.mem_cons_of_mem _ (List.mem_append_left _ (List.mem_append_left _ (List.mem_append_left _ (List.mem_of_getElem? (i := 0) rfl))))) (Or.inl rfl) dX11_run_71 ?_
                refine go_iload_n hC dX11_run_74 rfl 1 rfl ?_
                refine go_iload_n hC dX11_run_75 rfl 2 rfl ?_
                obtain ⟨r_5, hc, hf⟩ := bd_e1 hf
                refine go_callV hC (c_X3_drilledFrom x1 x2 h r_5 hc) gX11_run_X3_drilledFrom rfl ⟨rfl, rfl⟩ 2 e_X3_drilledFrom ⟨Nat.le_of_ble_eq_true rfl, Nat.le_of_ble_eq_true rfl⟩ (b_10 _) rfl rfl (st := []) (st1 := [.int r_5]) rfl rfl (Nat.le_of_ble_eq_true rfl) ⟨Nat.zero_le _, Nat.zero_le _⟩ dX11_run_76 ?_
                refine go_goto hC dX11_run_79 (tgt := 91) (by decide) ?_
                obtain rfl := so_1 hf
                exact hret _ _ rfl dX11_run_91
            · replace hf := if_t c_8 hf
              refine go_aload_n hC dX11_run_55 rfl 0 rfl ?_
              refine go_getr hC (j := 2) (idx := 28) (nm := "plot") (ds := "LLampWays$House;") (b_0 _) rfl rfl hn11 (Nat.le_of_ble_eq_true rfl) rfl rfl (List.mem_cons_of_mem _ (List.mem_append_left _ (List.mem_append_left _ (List.mem_append_left _ (List.mem_of_getElem? (i := 0) rfl))))) (Or.inl rfl) dX11_run_56 ?_
              refine go_iload_n hC dX11_run_59 rfl 1 rfl ?_
              refine go_iload_n hC dX11_run_60 rfl 2 rfl ?_
              obtain ⟨r_7, hc, hf⟩ := bd_e1 hf
              refine go_callV hC (c_X3_yardsFrom x1 x2 h r_7 hc) gX11_run_X3_yardsFrom rfl ⟨rfl, rfl⟩ 2 e_X3_yardsFrom ⟨Nat.le_of_ble_eq_true rfl, Nat.le_of_ble_eq_true rfl⟩ (b_10 _) rfl rfl (st := []) (st1 := [.int r_7]) rfl rfl (Nat.le_of_ble_eq_true rfl) ⟨Nat.zero_le _, Nat.zero_le _⟩ dX11_run_61 ?_
              obtain rfl := so_1 hf
              exact hret _ _ rfl dX11_run_64
          · replace hf := if_t c_9 hf
            refine go_bipush hC dX11_run_48 k8_m9 ?_
            obtain rfl := so_1 hf
            exact hret _ _ rfl dX11_run_50
        · replace hf := if_f c_10 hf
          refine go_bipush hC dX11_run_33 k8_m2 ?_
          obtain rfl := so_1 hf
          exact hret _ _ rfl dX11_run_35
    · replace hf := if_t c_12 hf
      refine go_iconst hC dX11_run_22 k1_m1 ?_
      obtain rfl := so_1 hf
      exact hret _ _ rfl dX11_run_23
def f_X11_along (x1 : Int32) (x2 : Int32) (x3 : Int32) (h : PH) : Option (Int32) :=
  bd_1 (f_X3_isPlace x1 h) fun r_1 =>
  if r_1 = 0 then (
  some (-1))
  else (
  bd_1 (f_X3_isPlace x2 h) fun r_2 =>
  if r_2 = 0 then (
  some (-1))
  else (
  if 0 ≤ x3 then (
  bd_1 (f_X3_stepOf x1 x2 x3 h) fun r_3 =>
  some r_3)
  else (
  some (-2))))
theorem e_X11_along : yX11_along.cls = RX11 ∧ yX11_along.cls ≠ "java/lang/invoke/MethodHandle" ∧ yX11_along.cls ≠ "java/lang/invoke/VarHandle" ∧ (parseMethodDescriptor yX11_along.desc).map (fun d => d.parameters.length) = some 3 := by decide +kernel
set_option maxRecDepth 100000 in
set_option maxHeartbeats 4000000 in
theorem c_X11_along (x1 : Int32) (x2 : Int32) (x3 : Int32) (h : PH) (r : Int32) (hf : f_X11_along x1 x2 x3 h = some r) : Con yX11_along wsX11_along (rm_d 3) l0_B [.ref 0, .int x1, .int x2, .int x3] h (some (.int r)) h := by
  have hn11 : ∀ w ∈ wsX110, w ∈ wsX11_along := (fun _ hw => (List.mem_cons_of_mem _ (List.mem_append_left _ (List.mem_append_right _ hw))))
  refine con_i (ty := .int) (cc := cX11_along) (nL := 4) (by decide) rfl (Nat.le_of_ble_eq_true rfl) ?_
  intro C hC hret
  change Go l0_B C 0 0 0 [(0, .ref 0), (1, .int x1), (2, .int x2), (3, .int x3)] [] h
  unfold f_X11_along at hf
  refine go_aload_n hC dX11_along_0 rfl 0 rfl ?_
  refine go_getr hC (j := 2) (idx := 28) (nm := "plot") (ds := "LLampWays$House;") (b_0 _) rfl rfl hn11 (Nat.le_of_ble_eq_true rfl) rfl rfl (List.mem_cons_of_mem _ (List.mem_append_left _ (List.mem_append_left _ (List.mem_append_left _ (List.mem_of_getElem? (i := 0) rfl))))) (Or.inl rfl) dX11_along_1 ?_
  refine go_iload_n hC dX11_along_4 rfl 1 rfl ?_
  obtain ⟨r_1, hc, hf⟩ := bd_e1 hf
  refine go_callV hC (c_X3_isPlace x1 h r_1 hc) gX11_along_X3_isPlace rfl ⟨rfl, rfl⟩ 1 e_X3_isPlace ⟨Nat.le_of_ble_eq_true rfl, Nat.le_of_ble_eq_true rfl⟩ (b_10 _) rfl rfl (st := []) (st1 := [.int r_1]) rfl rfl (Nat.le_of_ble_eq_true rfl) ⟨Nat.zero_le _, Nat.zero_le _⟩ dX11_along_5 ?_
  refine go_if_eq hC dX11_along_8 (tgt := 22) (by decide) (fun c_6 => ?_) (fun c_6 => ?_)
  · replace hf := if_t c_6 hf
    refine go_iconst hC dX11_along_22 k1_m1 ?_
    obtain rfl := so_1 hf
    exact hret _ _ rfl dX11_along_23
  · replace hf := if_f c_6 hf
    refine go_aload_n hC dX11_along_11 rfl 0 rfl ?_
    refine go_getr hC (j := 2) (idx := 28) (nm := "plot") (ds := "LLampWays$House;") (b_0 _) rfl rfl hn11 (Nat.le_of_ble_eq_true rfl) rfl rfl (List.mem_cons_of_mem _ (List.mem_append_left _ (List.mem_append_left _ (List.mem_append_left _ (List.mem_of_getElem? (i := 0) rfl))))) (Or.inl rfl) dX11_along_12 ?_
    refine go_iload_n hC dX11_along_15 rfl 2 rfl ?_
    obtain ⟨r_2, hc, hf⟩ := bd_e1 hf
    refine go_callV hC (c_X3_isPlace x2 h r_2 hc) gX11_along_X3_isPlace rfl ⟨rfl, rfl⟩ 1 e_X3_isPlace ⟨Nat.le_of_ble_eq_true rfl, Nat.le_of_ble_eq_true rfl⟩ (b_10 _) rfl rfl (st := []) (st1 := [.int r_2]) rfl rfl (Nat.le_of_ble_eq_true rfl) ⟨Nat.zero_le _, Nat.zero_le _⟩ dX11_along_16 ?_
    refine go_if_ne hC dX11_along_19 (tgt := 24) (by decide) (fun c_5 => ?_) (fun c_5 => ?_)
    · replace hf := if_f c_5 hf
      refine go_iload_n hC dX11_along_24 rfl 3 rfl ?_
      refine go_if_ge hC dX11_along_25 (tgt := 33) (by decide) (fun c_4 => ?_) (fun c_4 => ?_)
      · replace hf := if_t c_4 hf
        refine go_aload_n hC dX11_along_33 rfl 0 rfl ?_
        refine go_getr hC (j := 2) (idx := 28) (nm := "plot") (ds := "LLampWays$House;") (b_0 _) rfl rfl hn11 (Nat.le_of_ble_eq_true rfl) rfl rfl (List.mem_cons_of_mem _ (List.mem_append_left _ (List.mem_append_left _ (List.mem_append_left _ (List.mem_of_getElem? (i := 0) rfl))))) (Or.inl rfl) dX11_along_34 ?_
        refine go_iload_n hC dX11_along_37 rfl 1 rfl ?_
        refine go_iload_n hC dX11_along_38 rfl 2 rfl ?_
        refine go_iload_n hC dX11_along_39 rfl 3 rfl ?_
        obtain ⟨r_3, hc, hf⟩ := bd_e1 hf
        refine go_callV hC (c_X3_stepOf x1 x2 x3 h r_3 hc) gX11_along_X3_stepOf rfl ⟨rfl, rfl⟩ 3 e_X3_stepOf ⟨Nat.le_of_ble_eq_true rfl, Nat.le_of_ble_eq_true rfl⟩ (b_10 _) rfl rfl (st := []) (st1 := [.int r_3]) rfl rfl (Nat.le_of_ble_eq_true rfl) ⟨Nat.zero_le _, Nat.zero_le _⟩ dX11_along_40 ?_
        obtain rfl := so_1 hf
        exact hret _ _ rfl dX11_along_43
      · replace hf := if_f c_4 hf
        refine go_bipush hC dX11_along_28 k8_m2 ?_
        refine go_goto hC dX11_along_30 (tgt := 43) (by decide) ?_
        obtain rfl := so_1 hf
        exact hret _ _ rfl dX11_along_43
    · replace hf := if_t c_5 hf
      refine go_iconst hC dX11_along_22 k1_m1 ?_
      obtain rfl := so_1 hf
      exact hret _ _ rfl dX11_along_23
def f_X11_box (x1 : Int32) (h : PH) : Option (Int32 × PH) :=
  bd_1 (f_X3_isPlace x1 h) fun r_1 =>
  if r_1 = 0 then (
  some ((-1), h))
  else (
  lt_b (h.1 10 1) fun x2_2 =>
  lt_b (ph_i h 10 1 x1) fun h_3 =>
  some (x2_2, h_3))
theorem e_X11_box : yX11_box.cls = RX11 ∧ yX11_box.cls ≠ "java/lang/invoke/MethodHandle" ∧ yX11_box.cls ≠ "java/lang/invoke/VarHandle" ∧ (parseMethodDescriptor yX11_box.desc).map (fun d => d.parameters.length) = some 1 := by decide +kernel
set_option maxRecDepth 100000 in
set_option maxHeartbeats 4000000 in
theorem c_X11_box (x1 : Int32) (h : PH) (h2 : PH) (r : Int32) (hf : f_X11_box x1 h = some (r, h2)) : Con yX11_box wsX11_box (rm_d 1) l0_B [.ref 0, .int x1] h (some (.int r)) h2 := by
  have hn11 : ∀ w ∈ wsX110, w ∈ wsX11_box := (fun _ hw => (List.mem_cons_of_mem _ (List.mem_append_left _ (List.mem_append_right _ hw))))
  have hn3 : ∀ w ∈ wsX30, w ∈ wsX11_box := (fun _ hw => (List.mem_cons_of_mem _ (List.mem_append_right _ hw)))
  refine con_i (ty := .int) (cc := cX11_box) (nL := 3) (by decide) rfl (Nat.le_of_ble_eq_true rfl) ?_
  intro C hC hret
  change Go l0_B C 0 0 0 [(0, .ref 0), (1, .int x1)] [] h
  unfold f_X11_box at hf
  refine go_aload_n hC dX11_box_0 rfl 0 rfl ?_
  refine go_getr hC (j := 2) (idx := 28) (nm := "plot") (ds := "LLampWays$House;") (b_0 _) rfl rfl hn11 (Nat.le_of_ble_eq_true rfl) rfl rfl (List.mem_cons_of_mem _ (List.mem_append_left _ (List.mem_append_left _ (List.mem_of_getElem? (i := 0) rfl)))) (Or.inl rfl) dX11_box_1 ?_
  refine go_iload_n hC dX11_box_4 rfl 1 rfl ?_
  obtain ⟨r_1, hc, hf⟩ := bd_e1 hf
  refine go_callV hC (c_X3_isPlace x1 h r_1 hc) gX11_box_X3_isPlace rfl ⟨rfl, rfl⟩ 1 e_X3_isPlace ⟨Nat.le_of_ble_eq_true rfl, Nat.le_of_ble_eq_true rfl⟩ (b_10 _) rfl rfl (st := []) (st1 := [.int r_1]) rfl rfl (Nat.le_of_ble_eq_true rfl) ⟨Nat.zero_le _, Nat.zero_le _⟩ dX11_box_5 ?_
  refine go_if_ne hC dX11_box_8 (tgt := 13) (by decide) (fun c_4 => ?_) (fun c_4 => ?_)
  · replace hf := if_f c_4 hf
    refine go_aload_n hC dX11_box_13 rfl 0 rfl ?_
    refine go_getr hC (j := 2) (idx := 28) (nm := "plot") (ds := "LLampWays$House;") (b_0 _) rfl rfl hn11 (Nat.le_of_ble_eq_true rfl) rfl rfl (List.mem_cons_of_mem _ (List.mem_append_left _ (List.mem_append_left _ (List.mem_of_getElem? (i := 0) rfl)))) (Or.inl rfl) dX11_box_14 ?_
    refine go_geti hC (j := 1) (idx := 168) (nm := "boxPlace") (ds := "I") (b_10 _) rfl rfl hn3 (Nat.le_of_ble_eq_true rfl) rfl rfl (List.mem_cons_of_mem _ (List.mem_append_left _ (List.mem_append_left _ (List.mem_of_getElem? (i := 1) rfl)))) (Or.inl rfl) dX11_box_17 ?_
    obtain ⟨x2_2, ex2_2, hf⟩ := lt_e hf
    refine go_topi ex2_2 ?_
    refine go_istore_n hC dX11_box_20 rfl (Nat.le_of_ble_eq_true rfl) rfl ?_
    refine go_aload_n hC dX11_box_21 rfl 1 rfl ?_
    refine go_getr hC (j := 2) (idx := 28) (nm := "plot") (ds := "LLampWays$House;") (b_0 _) rfl rfl hn11 (Nat.le_of_ble_eq_true rfl) rfl rfl (List.mem_cons_of_mem _ (List.mem_append_left _ (List.mem_append_left _ (List.mem_of_getElem? (i := 0) rfl)))) (Or.inl rfl) dX11_box_22 ?_
    refine go_iload_n hC dX11_box_25 rfl 2 rfl ?_
    obtain ⟨h_3, eh_3, hf⟩ := lt_e hf
    refine go_puti hC tyX3 (j := 1) (idx := 168) (nm := "boxPlace") (ds := "I") (b_10 _) rfl rfl hn3 tyX3_ok nmX3 (Nat.le_of_ble_eq_true rfl) rfl rfl (List.mem_cons_of_mem _ (List.mem_append_left _ (List.mem_append_left _ (List.mem_of_getElem? (i := 1) rfl)))) (Or.inl rfl) rfl (tyX3_ok _ (Nat.le_of_ble_eq_true rfl)) dX11_box_26 ?_
    refine go_toph eh_3 ?_
    refine go_iload_n hC dX11_box_29 rfl 0 rfl ?_
    obtain ⟨rfl, rfl⟩ := so_2 hf
    exact hret _ _ rfl dX11_box_30
  · replace hf := if_t c_4 hf
    refine go_iconst hC dX11_box_11 k1_m1 ?_
    obtain ⟨rfl, rfl⟩ := so_2 hf
    exact hret _ _ rfl dX11_box_12
def f_X11_point (x1 : Int32) (x2 : Int32) (x3 : Int32) (h : PH) : Option (Int32 × PH) :=
  bd_1 (f_X3_isPlace x1 h) fun r_1 =>
  if r_1 = 0 then (
  some ((-1), h))
  else (
  bd_1 (f_X6_isLoad x2 h) fun r_2 =>
  if r_2 = 0 then (
  some ((-2), h))
  else (
  if x3 < 0 then (
  some ((-2), h))
  else (
  if x3 < 6 then (
  if (h.1 17 0) < 8 then (
  bd_2 (f_X6_add x1 x2 x3 h) fun r_3 h_4 =>
  some (r_3, h_4))
  else (
  some ((-4), h)))
  else (
  some ((-2), h)))))
theorem e_X11_point : yX11_point.cls = RX11 ∧ yX11_point.cls ≠ "java/lang/invoke/MethodHandle" ∧ yX11_point.cls ≠ "java/lang/invoke/VarHandle" ∧ (parseMethodDescriptor yX11_point.desc).map (fun d => d.parameters.length) = some 3 := by decide +kernel
set_option maxRecDepth 100000 in
set_option maxHeartbeats 4000000 in
theorem c_X11_point (x1 : Int32) (x2 : Int32) (x3 : Int32) (h : PH) (h2 : PH) (r : Int32) (hf : f_X11_point x1 x2 x3 h = some (r, h2)) : Con yX11_point wsX11_point (rm_d 1) l0_B [.ref 0, .int x1, .int x2, .int x3] h (some (.int r)) h2 := by
  have hn11 : ∀ w ∈ wsX110, w ∈ wsX11_point := (fun _ hw => (List.mem_cons_of_mem _ (List.mem_append_left _ (List.mem_append_left _ (List.mem_append_right _ hw)))))
  have hn6 : ∀ w ∈ wsX60, w ∈ wsX11_point := (fun _ hw => (List.mem_cons_of_mem _ (List.mem_append_left _ (List.mem_append_right _ hw))))
  refine con_i (ty := .int) (cc := cX11_point) (nL := 4) (by decide) rfl (Nat.le_of_ble_eq_true rfl) ?_
  intro C hC hret
  change Go l0_B C 0 0 0 [(0, .ref 0), (1, .int x1), (2, .int x2), (3, .int x3)] [] h
  unfold f_X11_point at hf
  refine go_aload_n hC dX11_point_0 rfl 0 rfl ?_
  refine go_getr hC (j := 2) (idx := 28) (nm := "plot") (ds := "LLampWays$House;") (b_0 _) rfl rfl hn11 (Nat.le_of_ble_eq_true rfl) rfl rfl (List.mem_cons_of_mem _ (List.mem_append_left _ (List.mem_append_left _ (List.mem_append_left _ (List.mem_of_getElem? (i := 0) rfl))))) (Or.inl rfl) dX11_point_1 ?_
  refine go_iload_n hC dX11_point_4 rfl 1 rfl ?_
  obtain ⟨r_1, hc, hf⟩ := bd_e1 hf
  refine go_callV hC (c_X3_isPlace x1 h r_1 hc) gX11_point_X3_isPlace rfl ⟨rfl, rfl⟩ 1 e_X3_isPlace ⟨Nat.le_of_ble_eq_true rfl, Nat.le_of_ble_eq_true rfl⟩ (b_10 _) rfl rfl (st := []) (st1 := [.int r_1]) rfl rfl (Nat.le_of_ble_eq_true rfl) ⟨Nat.zero_le _, Nat.zero_le _⟩ dX11_point_5 ?_
  refine go_if_ne hC dX11_point_8 (tgt := 13) (by decide) (fun c_9 => ?_) (fun c_9 => ?_)
  · replace hf := if_f c_9 hf
    refine go_iload_n hC dX11_point_13 rfl 2 rfl ?_
    obtain ⟨r_2, hc, hf⟩ := bd_e1 hf
    refine go_callS hC (c_X6_isLoad x2 h r_2 hc) gX11_point_X6_isLoad rfl ⟨rfl, rfl⟩ 1 e_X6_isLoad ⟨Nat.le_of_ble_eq_true rfl, Nat.le_of_ble_eq_true rfl⟩ rfl (st := []) (st1 := [.int r_2]) rfl rfl (Nat.le_of_ble_eq_true rfl) ⟨Nat.zero_le _, Nat.zero_le _⟩ dX11_point_14 ?_
    refine go_if_eq hC dX11_point_17 (tgt := 30) (by decide) (fun c_8 => ?_) (fun c_8 => ?_)
    · replace hf := if_t c_8 hf
      refine go_bipush hC dX11_point_30 k8_m2 ?_
      obtain ⟨rfl, rfl⟩ := so_2 hf
      exact hret _ _ rfl dX11_point_32
    · replace hf := if_f c_8 hf
      refine go_iload_n hC dX11_point_20 rfl 3 rfl ?_
      refine go_if_lt hC dX11_point_21 (tgt := 30) (by decide) (fun c_7 => ?_) (fun c_7 => ?_)
      · replace hf := if_t c_7 hf
        refine go_bipush hC dX11_point_30 k8_m2 ?_
        obtain ⟨rfl, rfl⟩ := so_2 hf
        exact hret _ _ rfl dX11_point_32
      · replace hf := if_f c_7 hf
        refine go_iload_n hC dX11_point_24 rfl 3 rfl ?_
        refine go_bipush hC dX11_point_25 k8_6 ?_
        refine go_icmp_lt hC dX11_point_27 (tgt := 33) (by decide) (fun c_6 => ?_) (fun c_6 => ?_)
        · replace hf := if_t c_6 hf
          refine go_aload_n hC dX11_point_33 rfl 0 rfl ?_
          refine go_getr hC (j := 3) (idx := 35) (nm := "points") (ds := "LLampWays$Points;") (b_0 _) rfl rfl hn11 (Nat.le_of_ble_eq_true rfl) rfl rfl (List.mem_cons_of_mem _ (List.mem_append_left _ (List.mem_append_left _ (List.mem_append_left _ (List.mem_of_getElem? (i := 1) rfl))))) (Or.inl rfl) dX11_point_34 ?_
          refine go_geti hC (j := 0) (idx := 115) (nm := "count") (ds := "I") (b_17 _) rfl rfl hn6 (Nat.le_of_ble_eq_true rfl) rfl rfl (List.mem_cons_of_mem _ (List.mem_append_left _ (List.mem_append_left _ (List.mem_append_left _ (List.mem_of_getElem? (i := 2) rfl))))) (Or.inl rfl) dX11_point_37 ?_
          refine go_bipush hC dX11_point_40 k8_8 ?_
          refine go_icmp_lt hC dX11_point_42 (tgt := 50) (by decide) (fun c_5 => ?_) (fun c_5 => ?_)
          · replace hf := if_t c_5 hf
            refine go_aload_n hC dX11_point_50 rfl 0 rfl ?_
            refine go_getr hC (j := 3) (idx := 35) (nm := "points") (ds := "LLampWays$Points;") (b_0 _) rfl rfl hn11 (Nat.le_of_ble_eq_true rfl) rfl rfl (List.mem_cons_of_mem _ (List.mem_append_left _ (List.mem_append_left _ (List.mem_append_left _ (List.mem_of_getElem? (i := 1) rfl))))) (Or.inl rfl) dX11_point_51 ?_
            refine go_iload_n hC dX11_point_54 rfl 1 rfl ?_
            refine go_iload_n hC dX11_point_55 rfl 2 rfl ?_
            refine go_iload_n hC dX11_point_56 rfl 3 rfl ?_
            obtain ⟨r_3, h_4, hc, hf⟩ := bd_e2 hf
            refine go_callV hC (c_X6_add x1 x2 x3 h h_4 r_3 hc) gX11_point_X6_add rfl ⟨rfl, rfl⟩ 3 e_X6_add ⟨Nat.le_of_ble_eq_true rfl, Nat.le_of_ble_eq_true rfl⟩ (b_17 _) rfl rfl (st := []) (st1 := [.int r_3]) rfl rfl (Nat.le_of_ble_eq_true rfl) ⟨Nat.zero_le _, Nat.zero_le _⟩ dX11_point_57 ?_
            obtain ⟨rfl, rfl⟩ := so_2 hf
            exact hret _ _ rfl dX11_point_60
          · replace hf := if_f c_5 hf
            refine go_bipush hC dX11_point_45 k8_m4 ?_
            refine go_goto hC dX11_point_47 (tgt := 60) (by decide) ?_
            obtain ⟨rfl, rfl⟩ := so_2 hf
            exact hret _ _ rfl dX11_point_60
        · replace hf := if_f c_6 hf
          refine go_bipush hC dX11_point_30 k8_m2 ?_
          obtain ⟨rfl, rfl⟩ := so_2 hf
          exact hret _ _ rfl dX11_point_32
  · replace hf := if_t c_9 hf
    refine go_iconst hC dX11_point_11 k1_m1 ?_
    obtain ⟨rfl, rfl⟩ := so_2 hf
    exact hret _ _ rfl dX11_point_12
def f_X11_ofPoint (x1 : Int32) (x2 : Int32) (h : PH) : Option (Int32) :=
  bd_1 (f_X6_isPoint x1 h) fun r_1 =>
  if r_1 = 0 then (
  some (-1))
  else (
  if x2 = 0 then (
  ga_i x1 8 (
  some (h.1 18 x1.toNatClampNeg)))
  else (
  if x2 = 1 then (
  ga_i x1 8 (
  some (h.1 19 x1.toNatClampNeg)))
  else (
  if x2 = 2 then (
  ga_i x1 8 (
  some (h.1 20 x1.toNatClampNeg)))
  else (
  if x2 = 3 then (
  ga_i x1 8 (
  some (h.1 21 x1.toNatClampNeg)))
  else (
  some (-2))))))
theorem e_X11_ofPoint : yX11_ofPoint.cls = RX11 ∧ yX11_ofPoint.cls ≠ "java/lang/invoke/MethodHandle" ∧ yX11_ofPoint.cls ≠ "java/lang/invoke/VarHandle" ∧ (parseMethodDescriptor yX11_ofPoint.desc).map (fun d => d.parameters.length) = some 2 := by decide +kernel
set_option maxRecDepth 100000 in
set_option maxHeartbeats 4000000 in
theorem c_X11_ofPoint (x1 : Int32) (x2 : Int32) (h : PH) (r : Int32) (hf : f_X11_ofPoint x1 x2 h = some r) : Con yX11_ofPoint wsX11_ofPoint (rm_d 1) l0_B [.ref 0, .int x1, .int x2] h (some (.int r)) h := by
  have hn11 : ∀ w ∈ wsX110, w ∈ wsX11_ofPoint := (fun _ hw => (List.mem_cons_of_mem _ (List.mem_append_left _ (List.mem_append_right _ hw))))
  have hn6 : ∀ w ∈ wsX60, w ∈ wsX11_ofPoint := (fun _ hw => (List.mem_cons_of_mem _ (List.mem_append_right _ hw)))
  refine con_i (ty := .int) (cc := cX11_ofPoint) (nL := 3) (by decide) rfl (Nat.le_of_ble_eq_true rfl) ?_
  intro C hC hret
  change Go l0_B C 0 0 0 [(0, .ref 0), (1, .int x1), (2, .int x2)] [] h
  unfold f_X11_ofPoint at hf
  refine go_aload_n hC dX11_ofPoint_0 rfl 0 rfl ?_
  refine go_getr hC (j := 3) (idx := 35) (nm := "points") (ds := "LLampWays$Points;") (b_0 _) rfl rfl hn11 (Nat.le_of_ble_eq_true rfl) rfl rfl (List.mem_cons_of_mem _ (List.mem_append_left _ (List.mem_append_left _ (List.mem_of_getElem? (i := 0) rfl)))) (Or.inl rfl) dX11_ofPoint_1 ?_
  refine go_iload_n hC dX11_ofPoint_4 rfl 1 rfl ?_
  obtain ⟨r_1, hc, hf⟩ := bd_e1 hf
  refine go_callV hC (c_X6_isPoint x1 h r_1 hc) gX11_ofPoint_X6_isPoint rfl ⟨rfl, rfl⟩ 1 e_X6_isPoint ⟨Nat.le_of_ble_eq_true rfl, Nat.le_of_ble_eq_true rfl⟩ (b_17 _) rfl rfl (st := []) (st1 := [.int r_1]) rfl rfl (Nat.le_of_ble_eq_true rfl) ⟨Nat.zero_le _, Nat.zero_le _⟩ dX11_ofPoint_5 ?_
  refine go_if_ne hC dX11_ofPoint_8 (tgt := 13) (by decide) (fun c_10 => ?_) (fun c_10 => ?_)
  · replace hf := if_f c_10 hf
    refine go_iload_n hC dX11_ofPoint_13 rfl 2 rfl ?_
    by_cases c_2 : x2 = 0
    · replace hf := if_t c_2 hf
      refine go_tab hC dX11_ofPoint_14 c_2 (off := 30) (by decide) (by decide) (by decide) (tgt := 44) (by decide) ?_
      refine go_aload_n hC dX11_ofPoint_44 rfl 0 rfl ?_
      refine go_getr hC (j := 3) (idx := 35) (nm := "points") (ds := "LLampWays$Points;") (b_0 _) rfl rfl hn11 (Nat.le_of_ble_eq_true rfl) rfl rfl (List.mem_cons_of_mem _ (List.mem_append_left _ (List.mem_append_left _ (List.mem_of_getElem? (i := 0) rfl)))) (Or.inl rfl) dX11_ofPoint_45 ?_
      refine go_getr hC (j := 1) (idx := 180) (nm := "places") (ds := "[I") (b_17 _) rfl rfl hn6 (Nat.le_of_ble_eq_true rfl) rfl rfl (List.mem_cons_of_mem _ (List.mem_append_left _ (List.mem_append_left _ (List.mem_of_getElem? (i := 1) rfl)))) (Or.inl rfl) dX11_ofPoint_48 ?_
      refine go_iload_n hC dX11_ofPoint_51 rfl 1 rfl ?_
      obtain ⟨g_6, hf⟩ := ga_e hf
      refine go_iald hC (b_18 _) g_6 dX11_ofPoint_52 ?_
      obtain rfl := so_1 hf
      exact hret _ _ rfl dX11_ofPoint_53
    · replace hf := if_f c_2 hf
      by_cases c_3 : x2 = 1
      · replace hf := if_t c_3 hf
        refine go_tab hC dX11_ofPoint_14 c_3 (off := 40) (by decide) (by decide) (by decide) (tgt := 54) (by decide) ?_
        refine go_aload_n hC dX11_ofPoint_54 rfl 0 rfl ?_
        refine go_getr hC (j := 3) (idx := 35) (nm := "points") (ds := "LLampWays$Points;") (b_0 _) rfl rfl hn11 (Nat.le_of_ble_eq_true rfl) rfl rfl (List.mem_cons_of_mem _ (List.mem_append_left _ (List.mem_append_left _ (List.mem_of_getElem? (i := 0) rfl)))) (Or.inl rfl) dX11_ofPoint_55 ?_
        refine go_getr hC (j := 2) (idx := 183) (nm := "loads") (ds := "[I") (b_17 _) rfl rfl hn6 (Nat.le_of_ble_eq_true rfl) rfl rfl (List.mem_cons_of_mem _ (List.mem_append_left _ (List.mem_append_left _ (List.mem_of_getElem? (i := 2) rfl)))) (Or.inl rfl) dX11_ofPoint_58 ?_
        refine go_iload_n hC dX11_ofPoint_61 rfl 1 rfl ?_
        obtain ⟨g_7, hf⟩ := ga_e hf
        refine go_iald hC (b_19 _) g_7 dX11_ofPoint_62 ?_
        obtain rfl := so_1 hf
        exact hret _ _ rfl dX11_ofPoint_63
      · replace hf := if_f c_3 hf
        by_cases c_4 : x2 = 2
        · replace hf := if_t c_4 hf
          refine go_tab hC dX11_ofPoint_14 c_4 (off := 50) (by decide) (by decide) (by decide) (tgt := 64) (by decide) ?_
          refine go_aload_n hC dX11_ofPoint_64 rfl 0 rfl ?_
          refine go_getr hC (j := 3) (idx := 35) (nm := "points") (ds := "LLampWays$Points;") (b_0 _) rfl rfl hn11 (Nat.le_of_ble_eq_true rfl) rfl rfl (List.mem_cons_of_mem _ (List.mem_append_left _ (List.mem_append_left _ (List.mem_of_getElem? (i := 0) rfl)))) (Or.inl rfl) dX11_ofPoint_65 ?_
          refine go_getr hC (j := 3) (idx := 186) (nm := "rooms") (ds := "[I") (b_17 _) rfl rfl hn6 (Nat.le_of_ble_eq_true rfl) rfl rfl (List.mem_cons_of_mem _ (List.mem_append_left _ (List.mem_append_left _ (List.mem_of_getElem? (i := 3) rfl)))) (Or.inl rfl) dX11_ofPoint_68 ?_
          refine go_iload_n hC dX11_ofPoint_71 rfl 1 rfl ?_
          obtain ⟨g_8, hf⟩ := ga_e hf
          refine go_iald hC (b_20 _) g_8 dX11_ofPoint_72 ?_
          obtain rfl := so_1 hf
          exact hret _ _ rfl dX11_ofPoint_73
        · replace hf := if_f c_4 hf
          by_cases c_5 : x2 = 3
          · replace hf := if_t c_5 hf
            refine go_tab hC dX11_ofPoint_14 c_5 (off := 60) (by decide) (by decide) (by decide) (tgt := 74) (by decide) ?_
            refine go_aload_n hC dX11_ofPoint_74 rfl 0 rfl ?_
            refine go_getr hC (j := 3) (idx := 35) (nm := "points") (ds := "LLampWays$Points;") (b_0 _) rfl rfl hn11 (Nat.le_of_ble_eq_true rfl) rfl rfl (List.mem_cons_of_mem _ (List.mem_append_left _ (List.mem_append_left _ (List.mem_of_getElem? (i := 0) rfl)))) (Or.inl rfl) dX11_ofPoint_75 ?_
            refine go_getr hC (j := 4) (idx := 189) (nm := "owners") (ds := "[I") (b_17 _) rfl rfl hn6 (Nat.le_of_ble_eq_true rfl) rfl rfl (List.mem_cons_of_mem _ (List.mem_append_left _ (List.mem_append_left _ (List.mem_of_getElem? (i := 4) rfl)))) (Or.inl rfl) dX11_ofPoint_78 ?_
            refine go_iload_n hC dX11_ofPoint_81 rfl 1 rfl ?_
            obtain ⟨g_9, hf⟩ := ga_e hf
            refine go_iald hC (b_21 _) g_9 dX11_ofPoint_82 ?_
            obtain rfl := so_1 hf
            exact hret _ _ rfl dX11_ofPoint_83
          · replace hf := if_f c_5 hf
            refine go_tabOut hC dX11_ofPoint_14 (tb_4 c_2 c_3 c_4 c_5) (tgt := 84) (by decide) ?_
            refine go_bipush hC dX11_ofPoint_84 k8_m2 ?_
            obtain rfl := so_1 hf
            exact hret _ _ rfl dX11_ofPoint_86
  · replace hf := if_t c_10 hf
    refine go_iconst hC dX11_ofPoint_11 k1_m1 ?_
    obtain rfl := so_1 hf
    exact hret _ _ rfl dX11_ofPoint_12
def f_X11_load (x1 : Int32) (x2 : Int32) (h : PH) : Option (Int32 × PH) :=
  bd_1 (f_X6_isPoint x1 h) fun r_1 =>
  if r_1 = 0 then (
  some ((-1), h))
  else (
  bd_1 (f_X6_isLoad x2 h) fun r_2 =>
  if r_2 = 0 then (
  some ((-2), h))
  else (
  ga_i x1 8 (
  lt_b (h.1 19 x1.toNatClampNeg) fun x3_4 =>
  ga_i x1 8 (
  lt_b (ph_i h 19 x1.toNatClampNeg x2) fun h_6 =>
  some (x3_4, h_6)))))
theorem e_X11_load : yX11_load.cls = RX11 ∧ yX11_load.cls ≠ "java/lang/invoke/MethodHandle" ∧ yX11_load.cls ≠ "java/lang/invoke/VarHandle" ∧ (parseMethodDescriptor yX11_load.desc).map (fun d => d.parameters.length) = some 2 := by decide +kernel
set_option maxRecDepth 100000 in
set_option maxHeartbeats 4000000 in
theorem c_X11_load (x1 : Int32) (x2 : Int32) (h : PH) (h2 : PH) (r : Int32) (hf : f_X11_load x1 x2 h = some (r, h2)) : Con yX11_load wsX11_load (rm_d 1) l0_B [.ref 0, .int x1, .int x2] h (some (.int r)) h2 := by
  have hn11 : ∀ w ∈ wsX110, w ∈ wsX11_load := (fun _ hw => (List.mem_cons_of_mem _ (List.mem_append_left _ (List.mem_append_right _ hw))))
  have hn6 : ∀ w ∈ wsX60, w ∈ wsX11_load := (fun _ hw => (List.mem_cons_of_mem _ (List.mem_append_right _ hw)))
  refine con_i (ty := .int) (cc := cX11_load) (nL := 4) (by decide) rfl (Nat.le_of_ble_eq_true rfl) ?_
  intro C hC hret
  change Go l0_B C 0 0 0 [(0, .ref 0), (1, .int x1), (2, .int x2)] [] h
  unfold f_X11_load at hf
  refine go_aload_n hC dX11_load_0 rfl 0 rfl ?_
  refine go_getr hC (j := 3) (idx := 35) (nm := "points") (ds := "LLampWays$Points;") (b_0 _) rfl rfl hn11 (Nat.le_of_ble_eq_true rfl) rfl rfl (List.mem_cons_of_mem _ (List.mem_append_left _ (List.mem_append_left _ (List.mem_of_getElem? (i := 0) rfl)))) (Or.inl rfl) dX11_load_1 ?_
  refine go_iload_n hC dX11_load_4 rfl 1 rfl ?_
  obtain ⟨r_1, hc, hf⟩ := bd_e1 hf
  refine go_callV hC (c_X6_isPoint x1 h r_1 hc) gX11_load_X6_isPoint rfl ⟨rfl, rfl⟩ 1 e_X6_isPoint ⟨Nat.le_of_ble_eq_true rfl, Nat.le_of_ble_eq_true rfl⟩ (b_17 _) rfl rfl (st := []) (st1 := [.int r_1]) rfl rfl (Nat.le_of_ble_eq_true rfl) ⟨Nat.zero_le _, Nat.zero_le _⟩ dX11_load_5 ?_
  refine go_if_ne hC dX11_load_8 (tgt := 13) (by decide) (fun c_8 => ?_) (fun c_8 => ?_)
  · replace hf := if_f c_8 hf
    refine go_iload_n hC dX11_load_13 rfl 2 rfl ?_
    obtain ⟨r_2, hc, hf⟩ := bd_e1 hf
    refine go_callS hC (c_X6_isLoad x2 h r_2 hc) gX11_load_X6_isLoad rfl ⟨rfl, rfl⟩ 1 e_X6_isLoad ⟨Nat.le_of_ble_eq_true rfl, Nat.le_of_ble_eq_true rfl⟩ rfl (st := []) (st1 := [.int r_2]) rfl rfl (Nat.le_of_ble_eq_true rfl) ⟨Nat.zero_le _, Nat.zero_le _⟩ dX11_load_14 ?_
    refine go_if_ne hC dX11_load_17 (tgt := 23) (by decide) (fun c_7 => ?_) (fun c_7 => ?_)
    · replace hf := if_f c_7 hf
      refine go_aload_n hC dX11_load_23 rfl 0 rfl ?_
      refine go_getr hC (j := 3) (idx := 35) (nm := "points") (ds := "LLampWays$Points;") (b_0 _) rfl rfl hn11 (Nat.le_of_ble_eq_true rfl) rfl rfl (List.mem_cons_of_mem _ (List.mem_append_left _ (List.mem_append_left _ (List.mem_of_getElem? (i := 0) rfl)))) (Or.inl rfl) dX11_load_24 ?_
      refine go_getr hC (j := 2) (idx := 183) (nm := "loads") (ds := "[I") (b_17 _) rfl rfl hn6 (Nat.le_of_ble_eq_true rfl) rfl rfl (List.mem_cons_of_mem _ (List.mem_append_left _ (List.mem_append_left _ (List.mem_of_getElem? (i := 1) rfl)))) (Or.inl rfl) dX11_load_27 ?_
      refine go_iload_n hC dX11_load_30 rfl 1 rfl ?_
      obtain ⟨g_3, hf⟩ := ga_e hf
      refine go_iald hC (b_19 _) g_3 dX11_load_31 ?_
      obtain ⟨x3_4, ex3_4, hf⟩ := lt_e hf
      refine go_topi ex3_4 ?_
      refine go_istore_n hC dX11_load_32 rfl (Nat.le_of_ble_eq_true rfl) rfl ?_
      refine go_aload_n hC dX11_load_33 rfl 1 rfl ?_
      refine go_getr hC (j := 3) (idx := 35) (nm := "points") (ds := "LLampWays$Points;") (b_0 _) rfl rfl hn11 (Nat.le_of_ble_eq_true rfl) rfl rfl (List.mem_cons_of_mem _ (List.mem_append_left _ (List.mem_append_left _ (List.mem_of_getElem? (i := 0) rfl)))) (Or.inl rfl) dX11_load_34 ?_
      refine go_getr hC (j := 2) (idx := 183) (nm := "loads") (ds := "[I") (b_17 _) rfl rfl hn6 (Nat.le_of_ble_eq_true rfl) rfl rfl (List.mem_cons_of_mem _ (List.mem_append_left _ (List.mem_append_left _ (List.mem_of_getElem? (i := 1) rfl)))) (Or.inl rfl) dX11_load_37 ?_
      refine go_iload_n hC dX11_load_40 rfl 2 rfl ?_
      refine go_iload_n hC dX11_load_41 rfl 3 rfl ?_
      obtain ⟨g_5, hf⟩ := ga_e hf
      obtain ⟨h_6, eh_6, hf⟩ := lt_e hf
      refine go_iast hC (b_19 _) g_5 dX11_load_42 ?_
      refine go_toph eh_6 ?_
      refine go_iload_n hC dX11_load_43 rfl 0 rfl ?_
      obtain ⟨rfl, rfl⟩ := so_2 hf
      exact hret _ _ rfl dX11_load_44
    · replace hf := if_t c_7 hf
      refine go_bipush hC dX11_load_20 k8_m2 ?_
      obtain ⟨rfl, rfl⟩ := so_2 hf
      exact hret _ _ rfl dX11_load_22
  · replace hf := if_t c_8 hf
    refine go_iconst hC dX11_load_11 k1_m1 ?_
    obtain ⟨rfl, rfl⟩ := so_2 hf
    exact hret _ _ rfl dX11_load_12
def f_X11_isKind (x0 : Int32) (h : PH) : Option (Int32) :=
  if x0 < 0 then (
  some 0)
  else (
  if 3 ≤ x0 then (
  some 0)
  else (
  some 1))
theorem e_X11_isKind : yX11_isKind.cls ≠ "java/lang/invoke/MethodHandle" ∧ yX11_isKind.cls ≠ "java/lang/invoke/VarHandle" ∧ (parseMethodDescriptor yX11_isKind.desc).map (fun d => d.parameters.length) = some 1 := by decide +kernel
set_option maxRecDepth 100000 in
set_option maxHeartbeats 4000000 in
theorem c_X11_isKind (x0 : Int32) (h : PH) (r : Int32) (hf : f_X11_isKind x0 h = some r) : Con yX11_isKind wsX11_isKind (rm_d 0) l0_B [.int x0] h (some (.int r)) h := by

  refine con_i (ty := .boolean) (cc := cX11_isKind) (nL := 1) (by decide) rfl (Nat.le_of_ble_eq_true rfl) ?_
  intro C hC hret
  change Go l0_B C 0 0 0 [(0, .int x0)] [] h
  unfold f_X11_isKind at hf
  refine go_iload_n hC dX11_isKind_0 rfl 0 rfl ?_
  refine go_if_lt hC dX11_isKind_1 (tgt := 13) (by decide) (fun c_2 => ?_) (fun c_2 => ?_)
  · replace hf := if_t c_2 hf
    refine go_iconst hC dX11_isKind_13 k1_0 ?_
    obtain rfl := so_1 hf
    exact hret _ _ (zo_n (Or.inl rfl)) dX11_isKind_14
  · replace hf := if_f c_2 hf
    refine go_iload_n hC dX11_isKind_4 rfl 0 rfl ?_
    refine go_iconst hC dX11_isKind_5 k1_3 ?_
    refine go_icmp_ge hC dX11_isKind_6 (tgt := 13) (by decide) (fun c_1 => ?_) (fun c_1 => ?_)
    · replace hf := if_t c_1 hf
      refine go_iconst hC dX11_isKind_13 k1_0 ?_
      obtain rfl := so_1 hf
      exact hret _ _ (zo_n (Or.inl rfl)) dX11_isKind_14
    · replace hf := if_f c_1 hf
      refine go_iconst hC dX11_isKind_9 k1_1 ?_
      refine go_goto hC dX11_isKind_10 (tgt := 14) (by decide) ?_
      obtain rfl := so_1 hf
      exact hret _ _ (zo_n (Or.inr rfl)) dX11_isKind_14
def f_X11_layWay (x1 : Int32) (x2 : Int32) (x3 : Int32) (x4 : Int32) (h : PH) : Option (Int32 × PH) :=
  gn_y x4 6 (
  lt_b (l0_B ++ h.2.2.2).length fun N0 =>
  gs_y N0 (
  lt_b (ph_n h N0 (.inl (0, x4.toNatClampNeg))) fun h_1 =>
  gc_y x3 0 x4 400 x4.toNatClampNeg (
  lt_b (ph_r h_1 N0 (va_cpy (h_1.1 4) (h_1.1 N0) x3.toNatClampNeg (0 : Int32).toNatClampNeg x4.toNatClampNeg)) fun h_2 =>
  lt_b (h_2.1 0 5) fun x6_8 =>
  if x1 = 0 then (
  lt_b (ph_n h_2 (N0 + 1) (.inr (1, [(0, 0), (0, 0), (2, N0)]))) fun h_24 =>
  lt_b (ph_i (ph_i (ph_i h_24 (N0 + 1) 0 x6_8) (N0 + 1) 1 x2) (N0 + 1) 2 1) fun h_25 =>
  ga_i x6_8 6 (
  lt_b (ph_w h_25 22 x6_8.toNatClampNeg (some ((N0 + 1)))) fun h_27 =>
  bd_2 (f_X6_own N0 x4.toNatClampNeg x6_8 h_27) fun r_28 h_29 =>
  lt_b (ph_i h_29 0 5 ((h_29.1 0 5) + 1)) fun h_30 =>
  some (x6_8, h_30)))
  else (
  if x1 = 1 then (
  lt_b (ph_n h_2 (N0 + 1) (.inr (7, [(0, 0), (0, 0), (2, N0)]))) fun h_16 =>
  lt_b (ph_i (ph_i (ph_i h_16 (N0 + 1) 0 x6_8) (N0 + 1) 1 x2) (N0 + 1) 2 1) fun h_17 =>
  ga_i x6_8 6 (
  lt_b (ph_w h_17 22 x6_8.toNatClampNeg (some ((N0 + 1)))) fun h_19 =>
  bd_2 (f_X6_own N0 x4.toNatClampNeg x6_8 h_19) fun r_20 h_21 =>
  lt_b (ph_i h_21 0 5 ((h_21.1 0 5) + 1)) fun h_22 =>
  some (x6_8, h_22)))
  else (
  lt_b (ph_n h_2 (N0 + 1) (.inr (9, [(0, 0), (0, 0), (2, N0)]))) fun h_9 =>
  lt_b (ph_i (ph_i (ph_i h_9 (N0 + 1) 0 x6_8) (N0 + 1) 1 x2) (N0 + 1) 2 1) fun h_10 =>
  ga_i x6_8 6 (
  lt_b (ph_w h_10 22 x6_8.toNatClampNeg (some ((N0 + 1)))) fun h_12 =>
  bd_2 (f_X6_own N0 x4.toNatClampNeg x6_8 h_12) fun r_13 h_14 =>
  lt_b (ph_i h_14 0 5 ((h_14.1 0 5) + 1)) fun h_15 =>
  some (x6_8, h_15)))))))
theorem e_X11_layWay : yX11_layWay.cls = RX11 ∧ yX11_layWay.cls ≠ "java/lang/invoke/MethodHandle" ∧ yX11_layWay.cls ≠ "java/lang/invoke/VarHandle" ∧ (parseMethodDescriptor yX11_layWay.desc).map (fun d => d.parameters.length) = some 4 := by decide +kernel
set_option maxRecDepth 100000 in
set_option maxHeartbeats 4000000 in
theorem c_X11_layWay (x1 : Int32) (x2 : Int32) (x3 : Int32) (x4 : Int32) (h : PH) (h2 : PH) (r : Int32) (hwf : wf_H l0_B h) (hf : f_X11_layWay x1 x2 x3 x4 h = some (r, h2)) : ConA yX11_layWay wsX11_layWay (rm_a 5 2 9) l0_B [.ref 0, .int x1, .int x2, .int x3, .int x4] h (some (.int r)) h2 := by
  have hn1 : ∀ w ∈ wsX10, w ∈ wsX11_layWay := (fun _ hw => (List.mem_cons_of_mem _ (List.mem_append_left _ (List.mem_append_left _ (List.mem_append_left _ (List.mem_append_right _ hw))))))
  have hn11 : ∀ w ∈ wsX110, w ∈ wsX11_layWay := (fun _ hw => (List.mem_cons_of_mem _ (List.mem_append_left _ (List.mem_append_left _ (List.mem_append_left _ (List.mem_append_left _ (List.mem_append_left _ (List.mem_append_right _ hw))))))))
  have hn7 : ∀ w ∈ wsX70, w ∈ wsX11_layWay := (fun _ hw => (List.mem_cons_of_mem _ (List.mem_append_left _ (List.mem_append_left _ (List.mem_append_right _ hw)))))
  have hn8 : ∀ w ∈ wsX80, w ∈ wsX11_layWay := (fun _ hw => (List.mem_cons_of_mem _ (List.mem_append_left _ (List.mem_append_left _ (List.mem_append_left _ (List.mem_append_left _ (List.mem_append_right _ hw)))))))
  have hn9 : ∀ w ∈ wsX90, w ∈ wsX11_layWay := (fun _ hw => (List.mem_cons_of_mem _ (List.mem_append_left _ (List.mem_append_right _ hw))))
  refine con_iA (ty := .int) (cc := cX11_layWay) (nL := 7) (by decide) rfl (Nat.le_of_ble_eq_true rfl) ?_
  intro C hC hret hAR hini
  change Go l0_B C 0 0 0 [(0, .ref 0), (1, .int x1), (2, .int x2), (3, .int x3), (4, .int x4)] [] h
  unfold f_X11_layWay at hf
  refine go_iload hC dX11_layWay_0 4 rfl ?_
  obtain ⟨⟨g1, g2⟩, hf⟩ := gn_e hf
  obtain ⟨N0, eN0, hf⟩ := lt_e hf
  obtain ⟨hNb, hf⟩ := gs_e hf
  obtain ⟨h_1, eh_1, hf⟩ := lt_e hf
  have hN0 : (l0_B ++ h.2.2.2).length = N0 := eN0.symm
  have h71 : 71 ≤ N0 := by rw [eN0]; exact l0_le _
  refine go_newa hC (N2 := x4.toNatClampNeg) (Or.inl ⟨rfl, rfl⟩) (List.mem_cons_of_mem _ (List.mem_append_left _ (List.mem_append_left _ (List.mem_append_left _ (List.mem_append_left _ (List.mem_append_left _ (List.mem_append_left _ (List.mem_append_left _ (List.mem_of_getElem? (i := 0) rfl))))))))) g1 rfl (by omega) (Nat.le_of_ble_eq_true rfl) (by show 0 + _ ≤ 9; omega) hN0 hwf (by omega) (hAR N0 (by omega)) (rl_ok (n := 71) rfl h71) (rs_ok (n := 71) rfl h71) dX11_layWay_2 ?_
  refine go_toph eh_1 ?_
  have hA : (l0_B ++ h_1.2.2.2)[N0]? = some (.inl (0, x4.toNatClampNeg)) := by rw [eh_1]; exact ly_new hN0
  replace hwf : wf_H l0_B h_1 := by rw [eh_1]; exact wf_n hN0 (fun o ho => (by cases ho)) hwf
  have hLn : (l0_B ++ h_1.2.2.2).length = N0 + 1 := by rw [eh_1]; exact ly_len hN0
  refine go_astore hC dX11_layWay_4 (Nat.le_of_ble_eq_true rfl) rfl ?_
  refine go_aload_n hC dX11_layWay_6 rfl 1 rfl ?_
  refine go_getr hC (j := 0) (idx := 12) (nm := "sheets") (ds := "LLampWays$Sheets;") (b_0 _) rfl rfl hn11 (Nat.le_of_ble_eq_true rfl) rfl rfl (List.mem_cons_of_mem _ (List.mem_append_left _ (List.mem_append_left _ (List.mem_append_left _ (List.mem_append_left _ (List.mem_append_left _ (List.mem_append_left _ (List.mem_append_left _ (List.mem_of_getElem? (i := 1) rfl))))))))) (Or.inl rfl) dX11_layWay_7 ?_
  refine go_getr hC (j := 2) (idx := 96) (nm := "cells") (ds := "[I") (b_1 _) rfl rfl hn8 (Nat.le_of_ble_eq_true rfl) rfl rfl (List.mem_cons_of_mem _ (List.mem_append_left _ (List.mem_append_left _ (List.mem_append_left _ (List.mem_append_left _ (List.mem_append_left _ (List.mem_append_left _ (List.mem_append_left _ (List.mem_of_getElem? (i := 2) rfl))))))))) (Or.inl rfl) dX11_layWay_10 ?_
  refine go_iload_n hC dX11_layWay_13 rfl 4 rfl ?_
  refine go_aload hC dX11_layWay_14 0 rfl ?_
  refine go_iconst hC dX11_layWay_16 k1_0 ?_
  refine go_iload hC dX11_layWay_17 5 rfl ?_
  obtain ⟨⟨g_3, g_4, g_5, g_6, g_7⟩, hf⟩ := gc_e hf
  obtain ⟨h_2, eh_2, hf⟩ := lt_e hf
  refine go_copy hC (b_4 _) hA (List.mem_cons_of_mem _ (List.mem_append_left _ (List.mem_append_left _ (List.mem_append_left _ (List.mem_append_left _ (List.mem_append_left _ (List.mem_append_left _ (List.mem_append_left _ (List.mem_of_getElem? (i := 3) rfl))))))))) (List.mem_cons_of_mem _ (List.mem_append_left _ (List.mem_append_left _ (List.mem_append_left _ (List.mem_append_left _ (List.mem_append_left _ (List.mem_append_left _ (List.mem_append_left _ (List.mem_of_getElem? (i := 4) rfl))))))))) (List.mem_cons_of_mem _ (List.mem_append_left _ (List.mem_append_left _ (List.mem_append_left _ (List.mem_append_left _ (List.mem_append_left _ (List.mem_append_left _ (List.mem_append_left _ (List.mem_of_getElem? (i := 5) rfl))))))))) (List.mem_cons_of_mem _ (List.mem_append_left _ (List.mem_append_left _ (List.mem_append_left _ (List.mem_append_left _ (List.mem_append_left _ (List.mem_append_left _ (List.mem_append_left _ (List.mem_of_getElem? (i := 6) rfl))))))))) g_3 g_4 g_5 g_6 g_7 ⟨Nat.le_of_ble_eq_true rfl, Nat.le_of_ble_eq_true rfl⟩ dX11_layWay_19 ?_
  refine go_toph eh_2 ?_
  replace hwf : wf_H l0_B h_2 := by rw [eh_2]; exact wf_r hA hwf
  replace hA : (l0_B ++ h_2.2.2.2)[N0]? = some (.inl (0, x4.toNatClampNeg)) := by rw [eh_2]; exact hA
  replace hLn : (l0_B ++ h_2.2.2.2).length = N0 + 1 := by rw [eh_2]; exact hLn
  refine go_aload_n hC dX11_layWay_22 rfl 1 rfl ?_
  refine go_geti hC (j := 5) (idx := 199) (nm := "waysEver") (ds := "I") (b_0 _) rfl rfl hn11 (Nat.le_of_ble_eq_true rfl) rfl rfl (List.mem_cons_of_mem _ (List.mem_append_left _ (List.mem_append_left _ (List.mem_append_left _ (List.mem_append_left _ (List.mem_append_left _ (List.mem_append_left _ (List.mem_append_left _ (List.mem_of_getElem? (i := 7) rfl))))))))) (Or.inl rfl) dX11_layWay_23 ?_
  obtain ⟨x6_8, ex6_8, hf⟩ := lt_e hf
  refine go_topi ex6_8 ?_
  refine go_istore hC dX11_layWay_26 (Nat.le_of_ble_eq_true rfl) rfl ?_
  refine go_iload_n hC dX11_layWay_28 rfl 3 rfl ?_
  refine go_if_ne hC dX11_layWay_29 (tgt := 54) (by decide) (fun c_31 => ?_) (fun c_31 => ?_)
  · replace hf := if_f c_31 hf
    refine go_iload_n hC dX11_layWay_54 rfl 3 rfl ?_
    refine go_iconst hC dX11_layWay_55 k1_1 ?_
    refine go_icmp_ne hC dX11_layWay_56 (tgt := 81) (by decide) (fun c_23 => ?_) (fun c_23 => ?_)
    · replace hf := if_f c_23 hf
      refine go_aload_n hC dX11_layWay_81 rfl 2 rfl ?_
      refine go_getr hC (j := 4) (idx := 41) (nm := "ways") (ds := "[LLampWays$Chain;") (b_0 _) rfl rfl hn11 (Nat.le_of_ble_eq_true rfl) rfl rfl (List.mem_cons_of_mem _ (List.mem_append_left _ (List.mem_append_left _ (List.mem_append_left _ (List.mem_append_left _ (List.mem_append_left _ (List.mem_append_left _ (List.mem_append_left _ (List.mem_of_getElem? (i := 8) rfl))))))))) (Or.inl rfl) dX11_layWay_82 ?_
      refine go_iload hC dX11_layWay_85 0 rfl ?_
      refine go_sub [2, 3, 4, 5, 6, 1, 0] (L' := [(0, .ref 0), (1, .int x1), (2, .int x2), (3, .int x3), (4, .int x4), (5, .ref N0), (6, .int x6_8)]) rfl ?_
      obtain ⟨h_9, eh_9, hf⟩ := lt_e hf
      refine go_new hC (ci := 9) (ks := [(0, 0), (0, 0), (2, N0)]) tyX9 rfl hn9 tyX9_ok (List.mem_cons_of_mem _ (List.mem_append_left _ (List.mem_append_left _ (List.mem_append_left _ (List.mem_append_left _ (List.mem_append_left _ (List.mem_append_left _ (List.mem_append_left _ (List.mem_of_getElem? (i := 15) rfl))))))))) (List.mem_cons_of_mem _ (List.mem_append_left _ (List.mem_append_left _ (List.mem_append_left _ (List.mem_append_left _ (List.mem_append_left _ (List.mem_append_left _ (List.mem_append_left _ (List.mem_of_getElem? (i := 16) rfl))))))))) (List.mem_cons_of_mem _ (List.mem_append_left _ (List.mem_append_left _ (List.mem_append_left _ (List.mem_append_left _ (List.mem_append_left _ (List.mem_append_left _ (List.mem_append_left _ (List.mem_of_getElem? (i := 17) rfl))))))))) (fun j hj => match j, hj with | 0, _ => rfl | 1, _ => rfl | 2, _ => rfl | j + 3, hj => absurd hj (by omega)) (by simp) (Nat.le_of_ble_eq_true rfl) (by show 0 + _ + 3 ≤ 9; omega) hLn hwf (by omega) (hAR (N0 + 1) (by omega)) (by intro q hq b hb; simp only [List.mem_cons, List.not_mem_nil, or_false] at hq; rcases hq with rfl | rfl | rfl | rfl | rfl | rfl | rfl <;> cases hb <;> exact Or.inl (by show @LT.lt Nat _ _ _; omega)) (rs_ok (n := 71) rfl (by omega)) dX11_layWay_87 ?_
      refine go_toph eh_9 ?_
      have ho : (l0_B ++ h_9.2.2.2)[N0 + 1]? = some (.inr (9, [(0, 0), (0, 0), (2, N0)])) := by rw [eh_9]; exact ly_new hLn
      replace hA : (l0_B ++ h_9.2.2.2)[N0]? = some (.inl (0, x4.toNatClampNeg)) := by rw [eh_9]; exact ly_old hA
      replace hLn : (l0_B ++ h_9.2.2.2).length = N0 + 2 := by rw [eh_9]; exact ly_len hLn
      refine go_wid (k := 2) (n := 9) (Nat.le_of_ble_eq_true rfl) (by omega) ?_
      refine go_dup hC dX11_layWay_90 rfl ?_
      refine go_iload hC dX11_layWay_91 6 rfl ?_
      refine go_iload_n hC dX11_layWay_93 rfl 2 rfl ?_
      refine go_aload hC dX11_layWay_94 5 rfl ?_
      obtain ⟨h_10, eh_10, hf⟩ := lt_e hf
      refine go_callI hC (ci_X9_init_X9 (N0 + 1) N0 x6_8 x2 h_9 ho hA) gX11_layWay_X9_init rfl 0 0 ⟨rfl, rfl⟩ (List.mem_cons_of_mem _ (List.mem_append_left _ (List.mem_append_left _ (List.mem_append_left _ (List.mem_append_left _ (List.mem_append_left _ (List.mem_append_left _ (List.mem_append_left _ (List.mem_of_getElem? (i := 17) rfl))))))))) (List.mem_cons_of_mem _ (List.mem_append_left _ (List.mem_append_left _ (List.mem_append_left _ (List.mem_append_left _ (List.mem_append_left _ (List.mem_append_left _ (List.mem_append_right _ (List.mem_of_getElem? (i := 8) rfl))))))))) (List.mem_cons_of_mem _ (List.mem_append_left _ (List.mem_append_left _ (List.mem_append_left _ (List.mem_append_left _ (List.mem_append_left _ (List.mem_append_left _ (List.mem_append_right _ (List.mem_of_getElem? (i := 9) rfl))))))))) rfl 3 (by decide +kernel) ⟨Nat.le_of_ble_eq_true rfl, Nat.le_of_ble_eq_true rfl⟩ rfl (st := [.ref ((N0 + 1)), .int x6_8, .ref 22]) rfl (Nat.le_of_ble_eq_true rfl) ⟨Nat.le_of_ble_eq_true rfl, Nat.le_of_ble_eq_true rfl⟩ hLn (hAR (N0 + 2) (by omega)) (by intro q hq b hb; simp only [List.mem_cons, List.not_mem_nil, or_false] at hq; rcases hq with rfl | rfl | rfl | rfl | rfl | rfl | rfl <;> cases hb <;> exact Or.inl (by show @LT.lt Nat _ _ _; omega)) (by intro q hq b hb; simp only [List.mem_cons, List.not_mem_nil, or_false] at hq; rcases hq with rfl | rfl | rfl <;> cases hb <;> exact Or.inl (by show @LT.lt Nat _ _ _; omega)) dX11_layWay_96 ?_
      refine go_toph eh_10 ?_
      replace hA : (l0_B ++ h_10.2.2.2)[N0]? = some (.inl (0, x4.toNatClampNeg)) := by rw [eh_10]; exact hA
      replace ho : (l0_B ++ h_10.2.2.2)[N0 + 1]? = some (.inr (9, [(0, 0), (0, 0), (2, N0)])) := by rw [eh_10]; exact ho
      obtain ⟨g_11, hf⟩ := ga_e hf
      obtain ⟨h_12, eh_12, hf⟩ := lt_e hf
      refine go_aast hC (b_22 _) g_11 ho (Or.inr (Or.inr rfl)) dX11_layWay_99 ?_
      refine go_toph eh_12 ?_
      replace hA : (l0_B ++ h_12.2.2.2)[N0]? = some (.inl (0, x4.toNatClampNeg)) := by rw [eh_12]; exact hA
      replace ho : (l0_B ++ h_12.2.2.2)[N0 + 1]? = some (.inr (9, [(0, 0), (0, 0), (2, N0)])) := by rw [eh_12]; exact ho
      refine go_aload_n hC dX11_layWay_100 rfl 0 rfl ?_
      refine go_getr hC (j := 3) (idx := 35) (nm := "points") (ds := "LLampWays$Points;") (b_0 _) rfl rfl hn11 (Nat.le_of_ble_eq_true rfl) rfl rfl (List.mem_cons_of_mem _ (List.mem_append_left _ (List.mem_append_left _ (List.mem_append_left _ (List.mem_append_left _ (List.mem_append_left _ (List.mem_append_left _ (List.mem_append_left _ (List.mem_of_getElem? (i := 18) rfl))))))))) (Or.inl rfl) dX11_layWay_101 ?_
      refine go_aload hC dX11_layWay_104 5 rfl ?_
      refine go_iload hC dX11_layWay_106 6 rfl ?_
      obtain ⟨r_13, h_14, hc, hf⟩ := bd_e2 hf
      refine go_callV hC (c_X6_own N0 x4.toNatClampNeg x6_8 h_12 h_14 hA hc) gX11_layWay_X6_own rfl ⟨rfl, rfl⟩ 2 e_X6_own ⟨Nat.le_of_ble_eq_true rfl, Nat.le_of_ble_eq_true rfl⟩ (b_17 _) rfl rfl (st := []) (st1 := []) rfl rfl (Nat.le_of_ble_eq_true rfl) ⟨Nat.le_of_ble_eq_true rfl, Nat.le_of_ble_eq_true rfl⟩ dX11_layWay_108 ?_
      refine go_aload_n hC dX11_layWay_111 rfl 0 rfl ?_
      refine go_dup hC dX11_layWay_112 rfl ?_
      refine go_geti hC (j := 5) (idx := 199) (nm := "waysEver") (ds := "I") (b_0 _) rfl rfl hn11 (Nat.le_of_ble_eq_true rfl) rfl rfl (List.mem_cons_of_mem _ (List.mem_append_left _ (List.mem_append_left _ (List.mem_append_left _ (List.mem_append_left _ (List.mem_append_left _ (List.mem_append_left _ (List.mem_append_left _ (List.mem_of_getElem? (i := 7) rfl))))))))) (Or.inl rfl) dX11_layWay_113 ?_
      refine go_iconst hC dX11_layWay_116 k1_1 ?_
      refine go_iadd hC dX11_layWay_117 ?_
      obtain ⟨h_15, eh_15, hf⟩ := lt_e hf
      refine go_puti hC tyX11 (j := 5) (idx := 199) (nm := "waysEver") (ds := "I") (b_0 _) rfl rfl hn11 tyX11_ok nmX11 (Nat.le_of_ble_eq_true rfl) rfl rfl (List.mem_cons_of_mem _ (List.mem_append_left _ (List.mem_append_left _ (List.mem_append_left _ (List.mem_append_left _ (List.mem_append_left _ (List.mem_append_left _ (List.mem_append_left _ (List.mem_of_getElem? (i := 7) rfl))))))))) (Or.inl rfl) rfl (tyX11_ok _ (Nat.le_of_ble_eq_true rfl)) dX11_layWay_118 ?_
      refine go_toph eh_15 ?_
      refine go_iload hC dX11_layWay_121 6 rfl ?_
      refine go_wid (k := 2) (n := 9) (Nat.le_of_ble_eq_true rfl) (Nat.le_of_ble_eq_true rfl) ?_
      obtain ⟨rfl, rfl⟩ := so_2 hf
      exact hret _ _ rfl dX11_layWay_123
    · replace hf := if_t c_23 hf
      refine go_aload_n hC dX11_layWay_59 rfl 2 rfl ?_
      refine go_getr hC (j := 4) (idx := 41) (nm := "ways") (ds := "[LLampWays$Chain;") (b_0 _) rfl rfl hn11 (Nat.le_of_ble_eq_true rfl) rfl rfl (List.mem_cons_of_mem _ (List.mem_append_left _ (List.mem_append_left _ (List.mem_append_left _ (List.mem_append_left _ (List.mem_append_left _ (List.mem_append_left _ (List.mem_append_left _ (List.mem_of_getElem? (i := 8) rfl))))))))) (Or.inl rfl) dX11_layWay_60 ?_
      refine go_iload hC dX11_layWay_63 0 rfl ?_
      refine go_sub [2, 3, 4, 5, 6, 1, 0] (L' := [(0, .ref 0), (1, .int x1), (2, .int x2), (3, .int x3), (4, .int x4), (5, .ref N0), (6, .int x6_8)]) rfl ?_
      obtain ⟨h_16, eh_16, hf⟩ := lt_e hf
      refine go_new hC (ci := 7) (ks := [(0, 0), (0, 0), (2, N0)]) tyX7 rfl hn7 tyX7_ok (List.mem_cons_of_mem _ (List.mem_append_left _ (List.mem_append_left _ (List.mem_append_left _ (List.mem_append_left _ (List.mem_append_left _ (List.mem_append_left _ (List.mem_append_left _ (List.mem_of_getElem? (i := 12) rfl))))))))) (List.mem_cons_of_mem _ (List.mem_append_left _ (List.mem_append_left _ (List.mem_append_left _ (List.mem_append_left _ (List.mem_append_left _ (List.mem_append_left _ (List.mem_append_left _ (List.mem_of_getElem? (i := 13) rfl))))))))) (List.mem_cons_of_mem _ (List.mem_append_left _ (List.mem_append_left _ (List.mem_append_left _ (List.mem_append_left _ (List.mem_append_left _ (List.mem_append_left _ (List.mem_append_left _ (List.mem_of_getElem? (i := 14) rfl))))))))) (fun j hj => match j, hj with | 0, _ => rfl | 1, _ => rfl | 2, _ => rfl | j + 3, hj => absurd hj (by omega)) (by simp) (Nat.le_of_ble_eq_true rfl) (by show 0 + _ + 3 ≤ 9; omega) hLn hwf (by omega) (hAR (N0 + 1) (by omega)) (by intro q hq b hb; simp only [List.mem_cons, List.not_mem_nil, or_false] at hq; rcases hq with rfl | rfl | rfl | rfl | rfl | rfl | rfl <;> cases hb <;> exact Or.inl (by show @LT.lt Nat _ _ _; omega)) (rs_ok (n := 71) rfl (by omega)) dX11_layWay_65 ?_
      refine go_toph eh_16 ?_
      have ho : (l0_B ++ h_16.2.2.2)[N0 + 1]? = some (.inr (7, [(0, 0), (0, 0), (2, N0)])) := by rw [eh_16]; exact ly_new hLn
      replace hA : (l0_B ++ h_16.2.2.2)[N0]? = some (.inl (0, x4.toNatClampNeg)) := by rw [eh_16]; exact ly_old hA
      replace hLn : (l0_B ++ h_16.2.2.2).length = N0 + 2 := by rw [eh_16]; exact ly_len hLn
      refine go_wid (k := 2) (n := 9) (Nat.le_of_ble_eq_true rfl) (by omega) ?_
      refine go_dup hC dX11_layWay_68 rfl ?_
      refine go_iload hC dX11_layWay_69 6 rfl ?_
      refine go_iload_n hC dX11_layWay_71 rfl 2 rfl ?_
      refine go_aload hC dX11_layWay_72 5 rfl ?_
      obtain ⟨h_17, eh_17, hf⟩ := lt_e hf
      refine go_callI hC (ci_X7_init_X7 (N0 + 1) N0 x6_8 x2 h_16 ho hA) gX11_layWay_X7_init rfl 0 0 ⟨rfl, rfl⟩ (List.mem_cons_of_mem _ (List.mem_append_left _ (List.mem_append_left _ (List.mem_append_left _ (List.mem_append_left _ (List.mem_append_left _ (List.mem_append_left _ (List.mem_append_left _ (List.mem_of_getElem? (i := 14) rfl))))))))) (List.mem_cons_of_mem _ (List.mem_append_left _ (List.mem_append_left _ (List.mem_append_left _ (List.mem_append_left _ (List.mem_append_left _ (List.mem_append_left _ (List.mem_append_right _ (List.mem_of_getElem? (i := 4) rfl))))))))) (List.mem_cons_of_mem _ (List.mem_append_left _ (List.mem_append_left _ (List.mem_append_left _ (List.mem_append_left _ (List.mem_append_left _ (List.mem_append_left _ (List.mem_append_right _ (List.mem_of_getElem? (i := 5) rfl))))))))) rfl 3 (by decide +kernel) ⟨Nat.le_of_ble_eq_true rfl, Nat.le_of_ble_eq_true rfl⟩ rfl (st := [.ref ((N0 + 1)), .int x6_8, .ref 22]) rfl (Nat.le_of_ble_eq_true rfl) ⟨Nat.le_of_ble_eq_true rfl, Nat.le_of_ble_eq_true rfl⟩ hLn (hAR (N0 + 2) (by omega)) (by intro q hq b hb; simp only [List.mem_cons, List.not_mem_nil, or_false] at hq; rcases hq with rfl | rfl | rfl | rfl | rfl | rfl | rfl <;> cases hb <;> exact Or.inl (by show @LT.lt Nat _ _ _; omega)) (by intro q hq b hb; simp only [List.mem_cons, List.not_mem_nil, or_false] at hq; rcases hq with rfl | rfl | rfl <;> cases hb <;> exact Or.inl (by show @LT.lt Nat _ _ _; omega)) dX11_layWay_74 ?_
      refine go_toph eh_17 ?_
      replace hA : (l0_B ++ h_17.2.2.2)[N0]? = some (.inl (0, x4.toNatClampNeg)) := by rw [eh_17]; exact hA
      replace ho : (l0_B ++ h_17.2.2.2)[N0 + 1]? = some (.inr (7, [(0, 0), (0, 0), (2, N0)])) := by rw [eh_17]; exact ho
      obtain ⟨g_18, hf⟩ := ga_e hf
      obtain ⟨h_19, eh_19, hf⟩ := lt_e hf
      refine go_aast hC (b_22 _) g_18 ho (Or.inr (Or.inl rfl)) dX11_layWay_77 ?_
      refine go_toph eh_19 ?_
      replace hA : (l0_B ++ h_19.2.2.2)[N0]? = some (.inl (0, x4.toNatClampNeg)) := by rw [eh_19]; exact hA
      replace ho : (l0_B ++ h_19.2.2.2)[N0 + 1]? = some (.inr (7, [(0, 0), (0, 0), (2, N0)])) := by rw [eh_19]; exact ho
      refine go_goto hC dX11_layWay_78 (tgt := 100) (by decide) ?_
      refine go_aload_n hC dX11_layWay_100 rfl 0 rfl ?_
      refine go_getr hC (j := 3) (idx := 35) (nm := "points") (ds := "LLampWays$Points;") (b_0 _) rfl rfl hn11 (Nat.le_of_ble_eq_true rfl) rfl rfl (List.mem_cons_of_mem _ (List.mem_append_left _ (List.mem_append_left _ (List.mem_append_left _ (List.mem_append_left _ (List.mem_append_left _ (List.mem_append_left _ (List.mem_append_left _ (List.mem_of_getElem? (i := 18) rfl))))))))) (Or.inl rfl) dX11_layWay_101 ?_
      refine go_aload hC dX11_layWay_104 5 rfl ?_
      refine go_iload hC dX11_layWay_106 6 rfl ?_
      obtain ⟨r_20, h_21, hc, hf⟩ := bd_e2 hf
      refine go_callV hC (c_X6_own N0 x4.toNatClampNeg x6_8 h_19 h_21 hA hc) gX11_layWay_X6_own rfl ⟨rfl, rfl⟩ 2 e_X6_own ⟨Nat.le_of_ble_eq_true rfl, Nat.le_of_ble_eq_true rfl⟩ (b_17 _) rfl rfl (st := []) (st1 := []) rfl rfl (Nat.le_of_ble_eq_true rfl) ⟨Nat.le_of_ble_eq_true rfl, Nat.le_of_ble_eq_true rfl⟩ dX11_layWay_108 ?_
      refine go_aload_n hC dX11_layWay_111 rfl 0 rfl ?_
      refine go_dup hC dX11_layWay_112 rfl ?_
      refine go_geti hC (j := 5) (idx := 199) (nm := "waysEver") (ds := "I") (b_0 _) rfl rfl hn11 (Nat.le_of_ble_eq_true rfl) rfl rfl (List.mem_cons_of_mem _ (List.mem_append_left _ (List.mem_append_left _ (List.mem_append_left _ (List.mem_append_left _ (List.mem_append_left _ (List.mem_append_left _ (List.mem_append_left _ (List.mem_of_getElem? (i := 7) rfl))))))))) (Or.inl rfl) dX11_layWay_113 ?_
      refine go_iconst hC dX11_layWay_116 k1_1 ?_
      refine go_iadd hC dX11_layWay_117 ?_
      obtain ⟨h_22, eh_22, hf⟩ := lt_e hf
      refine go_puti hC tyX11 (j := 5) (idx := 199) (nm := "waysEver") (ds := "I") (b_0 _) rfl rfl hn11 tyX11_ok nmX11 (Nat.le_of_ble_eq_true rfl) rfl rfl (List.mem_cons_of_mem _ (List.mem_append_left _ (List.mem_append_left _ (List.mem_append_left _ (List.mem_append_left _ (List.mem_append_left _ (List.mem_append_left _ (List.mem_append_left _ (List.mem_of_getElem? (i := 7) rfl))))))))) (Or.inl rfl) rfl (tyX11_ok _ (Nat.le_of_ble_eq_true rfl)) dX11_layWay_118 ?_
      refine go_toph eh_22 ?_
      refine go_iload hC dX11_layWay_121 6 rfl ?_
      refine go_wid (k := 2) (n := 9) (Nat.le_of_ble_eq_true rfl) (Nat.le_of_ble_eq_true rfl) ?_
      obtain ⟨rfl, rfl⟩ := so_2 hf
      exact hret _ _ rfl dX11_layWay_123
  · replace hf := if_t c_31 hf
    refine go_aload_n hC dX11_layWay_32 rfl 2 rfl ?_
    refine go_getr hC (j := 4) (idx := 41) (nm := "ways") (ds := "[LLampWays$Chain;") (b_0 _) rfl rfl hn11 (Nat.le_of_ble_eq_true rfl) rfl rfl (List.mem_cons_of_mem _ (List.mem_append_left _ (List.mem_append_left _ (List.mem_append_left _ (List.mem_append_left _ (List.mem_append_left _ (List.mem_append_left _ (List.mem_append_left _ (List.mem_of_getElem? (i := 8) rfl))))))))) (Or.inl rfl) dX11_layWay_33 ?_
    refine go_iload hC dX11_layWay_36 0 rfl ?_
    refine go_sub [2, 3, 4, 5, 6, 1, 0] (L' := [(0, .ref 0), (1, .int x1), (2, .int x2), (3, .int x3), (4, .int x4), (5, .ref N0), (6, .int x6_8)]) rfl ?_
    obtain ⟨h_24, eh_24, hf⟩ := lt_e hf
    refine go_new hC (ci := 1) (ks := [(0, 0), (0, 0), (2, N0)]) tyX1 rfl hn1 tyX1_ok (List.mem_cons_of_mem _ (List.mem_append_left _ (List.mem_append_left _ (List.mem_append_left _ (List.mem_append_left _ (List.mem_append_left _ (List.mem_append_left _ (List.mem_append_left _ (List.mem_of_getElem? (i := 9) rfl))))))))) (List.mem_cons_of_mem _ (List.mem_append_left _ (List.mem_append_left _ (List.mem_append_left _ (List.mem_append_left _ (List.mem_append_left _ (List.mem_append_left _ (List.mem_append_left _ (List.mem_of_getElem? (i := 10) rfl))))))))) (List.mem_cons_of_mem _ (List.mem_append_left _ (List.mem_append_left _ (List.mem_append_left _ (List.mem_append_left _ (List.mem_append_left _ (List.mem_append_left _ (List.mem_append_left _ (List.mem_of_getElem? (i := 11) rfl))))))))) (fun j hj => match j, hj with | 0, _ => rfl | 1, _ => rfl | 2, _ => rfl | j + 3, hj => absurd hj (by omega)) (by simp) (Nat.le_of_ble_eq_true rfl) (by show 0 + _ + 3 ≤ 9; omega) hLn hwf (by omega) (hAR (N0 + 1) (by omega)) (by intro q hq b hb; simp only [List.mem_cons, List.not_mem_nil, or_false] at hq; rcases hq with rfl | rfl | rfl | rfl | rfl | rfl | rfl <;> cases hb <;> exact Or.inl (by show @LT.lt Nat _ _ _; omega)) (rs_ok (n := 71) rfl (by omega)) dX11_layWay_38 ?_
    refine go_toph eh_24 ?_
    have ho : (l0_B ++ h_24.2.2.2)[N0 + 1]? = some (.inr (1, [(0, 0), (0, 0), (2, N0)])) := by rw [eh_24]; exact ly_new hLn
    replace hA : (l0_B ++ h_24.2.2.2)[N0]? = some (.inl (0, x4.toNatClampNeg)) := by rw [eh_24]; exact ly_old hA
    replace hLn : (l0_B ++ h_24.2.2.2).length = N0 + 2 := by rw [eh_24]; exact ly_len hLn
    refine go_wid (k := 2) (n := 9) (Nat.le_of_ble_eq_true rfl) (by omega) ?_
    refine go_dup hC dX11_layWay_41 rfl ?_
    refine go_iload hC dX11_layWay_42 6 rfl ?_
    refine go_iload_n hC dX11_layWay_44 rfl 2 rfl ?_
    refine go_aload hC dX11_layWay_45 5 rfl ?_
    obtain ⟨h_25, eh_25, hf⟩ := lt_e hf
    refine go_callI hC (ci_X1_init_X1 (N0 + 1) N0 x6_8 x2 h_24 ho) gX11_layWay_X1_init rfl 0 0 ⟨rfl, rfl⟩ (List.mem_cons_of_mem _ (List.mem_append_left _ (List.mem_append_left _ (List.mem_append_left _ (List.mem_append_left _ (List.mem_append_left _ (List.mem_append_left _ (List.mem_append_left _ (List.mem_of_getElem? (i := 11) rfl))))))))) (List.mem_cons_of_mem _ (List.mem_append_left _ (List.mem_append_left _ (List.mem_append_left _ (List.mem_append_left _ (List.mem_append_left _ (List.mem_append_left _ (List.mem_append_left _ (List.mem_of_getElem? (i := 19) rfl))))))))) (List.mem_cons_of_mem _ (List.mem_append_left _ (List.mem_append_left _ (List.mem_append_left _ (List.mem_append_left _ (List.mem_append_left _ (List.mem_append_left _ (List.mem_append_left _ (List.mem_of_getElem? (i := 20) rfl))))))))) rfl 3 (by decide +kernel) ⟨Nat.le_of_ble_eq_true rfl, Nat.le_of_ble_eq_true rfl⟩ rfl (st := [.ref ((N0 + 1)), .int x6_8, .ref 22]) rfl (Nat.le_of_ble_eq_true rfl) ⟨Nat.le_of_ble_eq_true rfl, Nat.le_of_ble_eq_true rfl⟩ hLn (hAR (N0 + 2) (by omega)) (by intro q hq b hb; simp only [List.mem_cons, List.not_mem_nil, or_false] at hq; rcases hq with rfl | rfl | rfl | rfl | rfl | rfl | rfl <;> cases hb <;> exact Or.inl (by show @LT.lt Nat _ _ _; omega)) (by intro q hq b hb; simp only [List.mem_cons, List.not_mem_nil, or_false] at hq; rcases hq with rfl | rfl | rfl <;> cases hb <;> exact Or.inl (by show @LT.lt Nat _ _ _; omega)) dX11_layWay_47 ?_
    refine go_toph eh_25 ?_
    replace hA : (l0_B ++ h_25.2.2.2)[N0]? = some (.inl (0, x4.toNatClampNeg)) := by rw [eh_25]; exact hA
    replace ho : (l0_B ++ h_25.2.2.2)[N0 + 1]? = some (.inr (1, [(0, 0), (0, 0), (2, N0)])) := by rw [eh_25]; exact ho
    obtain ⟨g_26, hf⟩ := ga_e hf
    obtain ⟨h_27, eh_27, hf⟩ := lt_e hf
    refine go_aast hC (b_22 _) g_26 ho (Or.inl rfl) dX11_layWay_50 ?_
    refine go_toph eh_27 ?_
    replace hA : (l0_B ++ h_27.2.2.2)[N0]? = some (.inl (0, x4.toNatClampNeg)) := by rw [eh_27]; exact hA
    replace ho : (l0_B ++ h_27.2.2.2)[N0 + 1]? = some (.inr (1, [(0, 0), (0, 0), (2, N0)])) := by rw [eh_27]; exact ho
    refine go_goto hC dX11_layWay_51 (tgt := 100) (by decide) ?_
    refine go_aload_n hC dX11_layWay_100 rfl 0 rfl ?_
    refine go_getr hC (j := 3) (idx := 35) (nm := "points") (ds := "LLampWays$Points;") (b_0 _) rfl rfl hn11 (Nat.le_of_ble_eq_true rfl) rfl rfl (List.mem_cons_of_mem _ (List.mem_append_left _ (List.mem_append_left _ (List.mem_append_left _ (List.mem_append_left _ (List.mem_append_left _ (List.mem_append_left _ (List.mem_append_left _ (List.mem_of_getElem? (i := 18) rfl))))))))) (Or.inl rfl) dX11_layWay_101 ?_
    refine go_aload hC dX11_layWay_104 5 rfl ?_
    refine go_iload hC dX11_layWay_106 6 rfl ?_
    obtain ⟨r_28, h_29, hc, hf⟩ := bd_e2 hf
    refine go_callV hC (c_X6_own N0 x4.toNatClampNeg x6_8 h_27 h_29 hA hc) gX11_layWay_X6_own rfl ⟨rfl, rfl⟩ 2 e_X6_own ⟨Nat.le_of_ble_eq_true rfl, Nat.le_of_ble_eq_true rfl⟩ (b_17 _) rfl rfl (st := []) (st1 := []) rfl rfl (Nat.le_of_ble_eq_true rfl) ⟨Nat.le_of_ble_eq_true rfl, Nat.le_of_ble_eq_true rfl⟩ dX11_layWay_108 ?_
    refine go_aload_n hC dX11_layWay_111 rfl 0 rfl ?_
    refine go_dup hC dX11_layWay_112 rfl ?_
    refine go_geti hC (j := 5) (idx := 199) (nm := "waysEver") (ds := "I") (b_0 _) rfl rfl hn11 (Nat.le_of_ble_eq_true rfl) rfl rfl (List.mem_cons_of_mem _ (List.mem_append_left _ (List.mem_append_left _ (List.mem_append_left _ (List.mem_append_left _ (List.mem_append_left _ (List.mem_append_left _ (List.mem_append_left _ (List.mem_of_getElem? (i := 7) rfl))))))))) (Or.inl rfl) dX11_layWay_113 ?_
    refine go_iconst hC dX11_layWay_116 k1_1 ?_
    refine go_iadd hC dX11_layWay_117 ?_
    obtain ⟨h_30, eh_30, hf⟩ := lt_e hf
    refine go_puti hC tyX11 (j := 5) (idx := 199) (nm := "waysEver") (ds := "I") (b_0 _) rfl rfl hn11 tyX11_ok nmX11 (Nat.le_of_ble_eq_true rfl) rfl rfl (List.mem_cons_of_mem _ (List.mem_append_left _ (List.mem_append_left _ (List.mem_append_left _ (List.mem_append_left _ (List.mem_append_left _ (List.mem_append_left _ (List.mem_append_left _ (List.mem_of_getElem? (i := 7) rfl))))))))) (Or.inl rfl) rfl (tyX11_ok _ (Nat.le_of_ble_eq_true rfl)) dX11_layWay_118 ?_
    refine go_toph eh_30 ?_
    refine go_iload hC dX11_layWay_121 6 rfl ?_
    refine go_wid (k := 2) (n := 9) (Nat.le_of_ble_eq_true rfl) (Nat.le_of_ble_eq_true rfl) ?_
    obtain ⟨rfl, rfl⟩ := so_2 hf
    exact hret _ _ rfl dX11_layWay_123
def f_X11_way (x1 : Int32) (x2 : Int32) (x3 : Int32) (x4 : Int32) (x5 : Int32) (x6 : Int32) (h : PH) : Option (Int32 × PH) :=
  lt_b (ph_i h 0 11 0) fun h_1 =>
  bd_1 (f_X8_isSheet x3 h_1) fun r_2 =>
  if r_2 = 0 then (
  some ((-1), h_1))
  else (
  bd_1 (f_X11_isKind x1 h_1) fun r_3 =>
  if r_3 = 0 then (
  some ((-2), h_1))
  else (
  if x2 < 1 then (
  some ((-2), h_1))
  else (
  if 99 < x2 then (
  some ((-2), h_1))
  else (
  bd_1 (f_X8_isLane x4 h_1) fun r_4 =>
  if r_4 = 0 then (
  some ((-2), h_1))
  else (
  bd_1 (f_X8_faultOfCells x3 x4 x5 x6 h_1) fun r_5 =>
  if r_5 = 0 then (
  if x6 < 1 then (
  some ((-2), h_1))
  else (
  if x6 ≤ 6 then (
  bd_1 (f_X8_spot x3 x5 h_1) fun r_6 =>
  bd_1 (f_X6_refusalOf r_6 x6 h_1) fun r_7 =>
  if r_7 = 0 then (
  if (h_1.1 0 5) < 6 then (
  bd_1 (f_X8_spot x3 x5 h_1) fun r_8 =>
  bd_2 (f_X11_layWay x1 x2 r_8 x6 h_1) fun r_9 h_10 =>
  some (r_9, h_10))
  else (
  some ((-4), h_1)))
  else (
  some (r_7, h_1)))
  else (
  some ((-2), h_1))))
  else (
  bd_2 (f_X11_faulty r_5 h_1) fun r_15 h_16 =>
  some (r_15, h_16)))))))
theorem e_X11_way : yX11_way.cls = RX11 ∧ yX11_way.cls ≠ "java/lang/invoke/MethodHandle" ∧ yX11_way.cls ≠ "java/lang/invoke/VarHandle" ∧ (parseMethodDescriptor yX11_way.desc).map (fun d => d.parameters.length) = some 6 := by decide +kernel
set_option maxRecDepth 100000 in
set_option maxHeartbeats 4000000 in
theorem c_X11_way (x1 : Int32) (x2 : Int32) (x3 : Int32) (x4 : Int32) (x5 : Int32) (x6 : Int32) (h : PH) (h2 : PH) (r : Int32) (hwf : wf_H l0_B h) (hf : f_X11_way x1 x2 x3 x4 x5 x6 h = some (r, h2)) : ConA yX11_way wsX11_way (rm_a 6 2 9) l0_B [.ref 0, .int x1, .int x2, .int x3, .int x4, .int x5, .int x6] h (some (.int r)) h2 := by
  have hn11 : ∀ w ∈ wsX110, w ∈ wsX11_way := (fun _ hw => (List.mem_cons_of_mem _ (List.mem_append_left _ (List.mem_append_left _ (List.mem_append_left _ (List.mem_append_left _ (List.mem_append_left _ (List.mem_append_right _ hw))))))))
  have hn8 : ∀ w ∈ wsX80, w ∈ wsX11_way := (fun _ hw => (List.mem_cons_of_mem _ (List.mem_append_left _ (List.mem_append_left _ (List.mem_append_left _ (List.mem_append_left _ (List.mem_append_right _ hw)))))))
  refine con_iA (ty := .int) (cc := cX11_way) (nL := 9) (by decide) rfl (Nat.le_of_ble_eq_true rfl) ?_
  intro C hC hret hAR hini
  change Go l0_B C 0 0 0 [(0, .ref 0), (1, .int x1), (2, .int x2), (3, .int x3), (4, .int x4), (5, .int x5), (6, .int x6)] [] h
  unfold f_X11_way at hf
  refine go_aload_n hC dX11_way_0 rfl 0 rfl ?_
  refine go_iconst hC dX11_way_1 k1_0 ?_
  obtain ⟨h_1, eh_1, hf⟩ := lt_e hf
  refine go_puti hC tyX11 (j := 11) (idx := 77) (nm := "latestFault") (ds := "I") (b_0 _) rfl rfl hn11 tyX11_ok nmX11 (Nat.le_of_ble_eq_true rfl) rfl rfl (List.mem_cons_of_mem _ (List.mem_append_left _ (List.mem_append_left _ (List.mem_append_left _ (List.mem_append_left _ (List.mem_append_left _ (List.mem_append_left _ (List.mem_append_left _ (List.mem_of_getElem? (i := 0) rfl))))))))) (Or.inl rfl) rfl (tyX11_ok _ (Nat.le_of_ble_eq_true rfl)) dX11_way_2 ?_
  refine go_toph eh_1 ?_
  replace hwf : wf_H l0_B h_1 := by rw [eh_1]; exact wf_i (b_0 _) (Or.inr ⟨_, _, rfl, rfl, Or.inl (Or.inl rfl)⟩) hwf
  refine go_iload_n hC dX11_way_5 rfl 3 rfl ?_
  obtain ⟨r_2, hc, hf⟩ := bd_e1 hf
  refine go_callS hC (c_X8_isSheet x3 h_1 r_2 hc) gX11_way_X8_isSheet rfl ⟨rfl, rfl⟩ 1 e_X8_isSheet ⟨Nat.le_of_ble_eq_true rfl, Nat.le_of_ble_eq_true rfl⟩ rfl (st := []) (st1 := [.int r_2]) rfl rfl (Nat.le_of_ble_eq_true rfl) ⟨Nat.le_of_ble_eq_true rfl, Nat.le_of_ble_eq_true rfl⟩ dX11_way_6 ?_
  refine go_if_ne hC dX11_way_9 (tgt := 14) (by decide) (fun c_22 => ?_) (fun c_22 => ?_)
  · replace hf := if_f c_22 hf
    refine go_iload_n hC dX11_way_14 rfl 1 rfl ?_
    obtain ⟨r_3, hc, hf⟩ := bd_e1 hf
    refine go_callS hC (c_X11_isKind x1 h_1 r_3 hc) gX11_way_X11_isKind rfl ⟨rfl, rfl⟩ 1 e_X11_isKind ⟨Nat.le_of_ble_eq_true rfl, Nat.le_of_ble_eq_true rfl⟩ rfl (st := []) (st1 := [.int r_3]) rfl rfl (Nat.le_of_ble_eq_true rfl) ⟨Nat.le_of_ble_eq_true rfl, Nat.le_of_ble_eq_true rfl⟩ dX11_way_15 ?_
    refine go_if_eq hC dX11_way_18 (tgt := 40) (by decide) (fun c_21 => ?_) (fun c_21 => ?_)
    · replace hf := if_t c_21 hf
      refine go_bipush hC dX11_way_40 k8_m2 ?_
      refine go_wid (k := 2) (n := 9) (Nat.le_of_ble_eq_true rfl) (Nat.le_of_ble_eq_true rfl) ?_
      obtain ⟨rfl, rfl⟩ := so_2 hf
      exact hret _ _ rfl dX11_way_42
    · replace hf := if_f c_21 hf
      refine go_iload_n hC dX11_way_21 rfl 2 rfl ?_
      refine go_iconst hC dX11_way_22 k1_1 ?_
      refine go_icmp_lt hC dX11_way_23 (tgt := 40) (by decide) (fun c_20 => ?_) (fun c_20 => ?_)
      · replace hf := if_t c_20 hf
        refine go_bipush hC dX11_way_40 k8_m2 ?_
        refine go_wid (k := 2) (n := 9) (Nat.le_of_ble_eq_true rfl) (Nat.le_of_ble_eq_true rfl) ?_
        obtain ⟨rfl, rfl⟩ := so_2 hf
        exact hret _ _ rfl dX11_way_42
      · replace hf := if_f c_20 hf
        refine go_iload_n hC dX11_way_26 rfl 2 rfl ?_
        refine go_bipush hC dX11_way_27 k8_99 ?_
        refine go_icmp_gt hC dX11_way_29 (tgt := 40) (by decide) (fun c_19 => ?_) (fun c_19 => ?_)
        · replace hf := if_t c_19 hf
          refine go_bipush hC dX11_way_40 k8_m2 ?_
          refine go_wid (k := 2) (n := 9) (Nat.le_of_ble_eq_true rfl) (Nat.le_of_ble_eq_true rfl) ?_
          obtain ⟨rfl, rfl⟩ := so_2 hf
          exact hret _ _ rfl dX11_way_42
        · replace hf := if_f c_19 hf
          refine go_iload hC dX11_way_32 4 rfl ?_
          obtain ⟨r_4, hc, hf⟩ := bd_e1 hf
          refine go_callS hC (c_X8_isLane x4 h_1 r_4 hc) gX11_way_X8_isLane rfl ⟨rfl, rfl⟩ 1 e_X8_isLane ⟨Nat.le_of_ble_eq_true rfl, Nat.le_of_ble_eq_true rfl⟩ rfl (st := []) (st1 := [.int r_4]) rfl rfl (Nat.le_of_ble_eq_true rfl) ⟨Nat.le_of_ble_eq_true rfl, Nat.le_of_ble_eq_true rfl⟩ dX11_way_34 ?_
          refine go_if_ne hC dX11_way_37 (tgt := 43) (by decide) (fun c_18 => ?_) (fun c_18 => ?_)
          · replace hf := if_f c_18 hf
            refine go_aload_n hC dX11_way_43 rfl 0 rfl ?_
            refine go_getr hC (j := 0) (idx := 12) (nm := "sheets") (ds := "LLampWays$Sheets;") (b_0 _) rfl rfl hn11 (Nat.le_of_ble_eq_true rfl) rfl rfl (List.mem_cons_of_mem _ (List.mem_append_left _ (List.mem_append_left _ (List.mem_append_left _ (List.mem_append_left _ (List.mem_append_left _ (List.mem_append_left _ (List.mem_append_left _ (List.mem_of_getElem? (i := 1) rfl))))))))) (Or.inl rfl) dX11_way_44 ?_
            refine go_iload_n hC dX11_way_47 rfl 3 rfl ?_
            refine go_iload hC dX11_way_48 4 rfl ?_
            refine go_iload hC dX11_way_50 5 rfl ?_
            refine go_iload hC dX11_way_52 6 rfl ?_
            obtain ⟨r_5, hc, hf⟩ := bd_e1 hf
            refine go_callV hC (c_X8_faultOfCells x3 x4 x5 x6 h_1 r_5 hc) gX11_way_X8_faultOfCells rfl ⟨rfl, rfl⟩ 4 e_X8_faultOfCells ⟨Nat.le_of_ble_eq_true rfl, Nat.le_of_ble_eq_true rfl⟩ (b_1 _) rfl rfl (st := []) (st1 := [.int r_5]) rfl rfl (Nat.le_of_ble_eq_true rfl) ⟨Nat.le_of_ble_eq_true rfl, Nat.le_of_ble_eq_true rfl⟩ dX11_way_54 ?_
            refine go_istore hC dX11_way_57 (Nat.le_of_ble_eq_true rfl) rfl ?_
            refine go_iload hC dX11_way_59 0 rfl ?_
            refine go_if_eq hC dX11_way_61 (tgt := 71) (by decide) (fun c_17 => ?_) (fun c_17 => ?_)
            · replace hf := if_t c_17 hf
              refine go_iload hC dX11_way_71 7 rfl ?_
              refine go_iconst hC dX11_way_73 k1_1 ?_
              refine go_icmp_lt hC dX11_way_74 (tgt := 84) (by decide) (fun c_14 => ?_) (fun c_14 => ?_)
              · replace hf := if_t c_14 hf
                refine go_bipush hC dX11_way_84 k8_m2 ?_
                refine go_wid (k := 2) (n := 9) (Nat.le_of_ble_eq_true rfl) (Nat.le_of_ble_eq_true rfl) ?_
                obtain ⟨rfl, rfl⟩ := so_2 hf
                exact hret _ _ rfl dX11_way_86
              · replace hf := if_f c_14 hf
                refine go_iload hC dX11_way_77 7 rfl ?_
                refine go_bipush hC dX11_way_79 k8_6 ?_
                refine go_icmp_le hC dX11_way_81 (tgt := 87) (by decide) (fun c_13 => ?_) (fun c_13 => ?_)
                · replace hf := if_t c_13 hf
                  refine go_aload_n hC dX11_way_87 rfl 1 rfl ?_
                  refine go_getr hC (j := 3) (idx := 35) (nm := "points") (ds := "LLampWays$Points;") (b_0 _) rfl rfl hn11 (Nat.le_of_ble_eq_true rfl) rfl rfl (List.mem_cons_of_mem _ (List.mem_append_left _ (List.mem_append_left _ (List.mem_append_left _ (List.mem_append_left _ (List.mem_append_left _ (List.mem_append_left _ (List.mem_append_left _ (List.mem_of_getElem? (i := 2) rfl))))))))) (Or.inl rfl) dX11_way_88 ?_
                  refine go_aload_n hC dX11_way_91 rfl 1 rfl ?_
                  refine go_getr hC (j := 0) (idx := 12) (nm := "sheets") (ds := "LLampWays$Sheets;") (b_0 _) rfl rfl hn11 (Nat.le_of_ble_eq_true rfl) rfl rfl (List.mem_cons_of_mem _ (List.mem_append_left _ (List.mem_append_left _ (List.mem_append_left _ (List.mem_append_left _ (List.mem_append_left _ (List.mem_append_left _ (List.mem_append_left _ (List.mem_of_getElem? (i := 1) rfl))))))))) (Or.inl rfl) dX11_way_92 ?_
                  refine go_getr hC (j := 2) (idx := 96) (nm := "cells") (ds := "[I") (b_1 _) rfl rfl hn8 (Nat.le_of_ble_eq_true rfl) rfl rfl (List.mem_cons_of_mem _ (List.mem_append_left _ (List.mem_append_left _ (List.mem_append_left _ (List.mem_append_left _ (List.mem_append_left _ (List.mem_append_left _ (List.mem_append_left _ (List.mem_of_getElem? (i := 3) rfl))))))))) (Or.inl rfl) dX11_way_95 ?_
                  refine go_iload_n hC dX11_way_98 rfl 4 rfl ?_
                  refine go_iload hC dX11_way_99 6 rfl ?_
                  obtain ⟨r_6, hc, hf⟩ := bd_e1 hf
                  refine go_callS hC (c_X8_spot x3 x5 h_1 r_6 hc) gX11_way_X8_spot rfl ⟨rfl, rfl⟩ 2 e_X8_spot ⟨Nat.le_of_ble_eq_true rfl, Nat.le_of_ble_eq_true rfl⟩ rfl (st := [.ref 4, .ref 17]) (st1 := [.int r_6, .ref 4, .ref 17]) rfl rfl (Nat.le_of_ble_eq_true rfl) ⟨Nat.le_of_ble_eq_true rfl, Nat.le_of_ble_eq_true rfl⟩ dX11_way_101 ?_
                  refine go_iload hC dX11_way_104 7 rfl ?_
                  obtain ⟨r_7, hc, hf⟩ := bd_e1 hf
                  refine go_callV hC (c_X6_refusalOf r_6 x6 h_1 r_7 hc) gX11_way_X6_refusalOf rfl ⟨rfl, rfl⟩ 3 e_X6_refusalOf ⟨Nat.le_of_ble_eq_true rfl, Nat.le_of_ble_eq_true rfl⟩ (b_17 _) rfl rfl (st := []) (st1 := [.int r_7]) rfl rfl (Nat.le_of_ble_eq_true rfl) ⟨Nat.le_of_ble_eq_true rfl, Nat.le_of_ble_eq_true rfl⟩ dX11_way_106 ?_
                  refine go_istore hC dX11_way_109 (Nat.le_of_ble_eq_true rfl) rfl ?_
                  refine go_iload hC dX11_way_111 0 rfl ?_
                  refine go_if_eq hC dX11_way_113 (tgt := 119) (by decide) (fun c_12 => ?_) (fun c_12 => ?_)
                  · replace hf := if_t c_12 hf
                    refine go_aload_n hC dX11_way_119 rfl 2 rfl ?_
                    refine go_geti hC (j := 5) (idx := 199) (nm := "waysEver") (ds := "I") (b_0 _) rfl rfl hn11 (Nat.le_of_ble_eq_true rfl) rfl rfl (List.mem_cons_of_mem _ (List.mem_append_left _ (List.mem_append_left _ (List.mem_append_left _ (List.mem_append_left _ (List.mem_append_left _ (List.mem_append_left _ (List.mem_append_left _ (List.mem_of_getElem? (i := 4) rfl))))))))) (Or.inl rfl) dX11_way_120 ?_
                    refine go_bipush hC dX11_way_123 k8_6 ?_
                    refine go_icmp_lt hC dX11_way_125 (tgt := 133) (by decide) (fun c_11 => ?_) (fun c_11 => ?_)
                    · replace hf := if_t c_11 hf
                      refine go_aload_n hC dX11_way_133 rfl 2 rfl ?_
                      refine go_iload_n hC dX11_way_134 rfl 3 rfl ?_
                      refine go_iload_n hC dX11_way_135 rfl 4 rfl ?_
                      refine go_iload_n hC dX11_way_136 rfl 5 rfl ?_
                      refine go_iload hC dX11_way_137 7 rfl ?_
                      obtain ⟨r_8, hc, hf⟩ := bd_e1 hf
                      refine go_callS hC (c_X8_spot x3 x5 h_1 r_8 hc) gX11_way_X8_spot rfl ⟨rfl, rfl⟩ 2 e_X8_spot ⟨Nat.le_of_ble_eq_true rfl, Nat.le_of_ble_eq_true rfl⟩ rfl (st := [.int x2, .int x1, .ref 0]) (st1 := [.int r_8, .int x2, .int x1, .ref 0]) rfl rfl (Nat.le_of_ble_eq_true rfl) ⟨Nat.le_of_ble_eq_true rfl, Nat.le_of_ble_eq_true rfl⟩ dX11_way_139 ?_
                      refine go_iload hC dX11_way_142 8 rfl ?_
                      obtain ⟨r_9, h_10, hc, hf⟩ := bd_e2 hf
                      refine go_callVA hC (c_X11_layWay x1 x2 r_8 x6 h_1 h_10 r_9 hwf hc) gX11_way_X11_layWay rfl 2 9 ⟨rfl, rfl⟩ 4 e_X11_layWay ⟨Nat.le_of_ble_eq_true rfl, Nat.le_of_ble_eq_true rfl⟩ (b_0 _) rfl rfl (st := []) (st1 := [.int r_9]) rfl rfl (by intro v hv b hb; simp at hv; subst hv; cases hb) (Nat.le_of_ble_eq_true rfl) ⟨Nat.le_of_ble_eq_true rfl, Nat.le_of_ble_eq_true rfl⟩ rfl (hAR _ (by rw [eh_1]; exact Nat.le_refl _)) (rl_ok (n := 71) rfl (l0_le _)) (rs_ok (n := 71) rfl (l0_le _)) dX11_way_144 ?_
                      refine go_wid (k := 2) (n := 9) (Nat.le_of_ble_eq_true rfl) (Nat.le_of_ble_eq_true rfl) ?_
                      obtain ⟨rfl, rfl⟩ := so_2 hf
                      exact hret _ _ rfl dX11_way_147
                    · replace hf := if_f c_11 hf
                      refine go_bipush hC dX11_way_128 k8_m4 ?_
                      refine go_goto hC dX11_way_130 (tgt := 147) (by decide) ?_
                      refine go_wid (k := 2) (n := 9) (Nat.le_of_ble_eq_true rfl) (Nat.le_of_ble_eq_true rfl) ?_
                      obtain ⟨rfl, rfl⟩ := so_2 hf
                      exact hret _ _ rfl dX11_way_147
                  · replace hf := if_f c_12 hf
                    refine go_iload hC dX11_way_116 0 rfl ?_
                    refine go_wid (k := 2) (n := 9) (Nat.le_of_ble_eq_true rfl) (Nat.le_of_ble_eq_true rfl) ?_
                    obtain ⟨rfl, rfl⟩ := so_2 hf
                    exact hret _ _ rfl dX11_way_118
                · replace hf := if_f c_13 hf
                  refine go_bipush hC dX11_way_84 k8_m2 ?_
                  refine go_wid (k := 2) (n := 9) (Nat.le_of_ble_eq_true rfl) (Nat.le_of_ble_eq_true rfl) ?_
                  obtain ⟨rfl, rfl⟩ := so_2 hf
                  exact hret _ _ rfl dX11_way_86
            · replace hf := if_f c_17 hf
              refine go_aload_n hC dX11_way_64 rfl 1 rfl ?_
              refine go_iload hC dX11_way_65 0 rfl ?_
              obtain ⟨r_15, h_16, hc, hf⟩ := bd_e2 hf
              refine go_callV hC (c_X11_faulty r_5 h_1 h_16 r_15 hc) gX11_way_X11_faulty rfl ⟨rfl, rfl⟩ 1 e_X11_faulty ⟨Nat.le_of_ble_eq_true rfl, Nat.le_of_ble_eq_true rfl⟩ (b_0 _) rfl rfl (st := []) (st1 := [.int r_15]) rfl rfl (Nat.le_of_ble_eq_true rfl) ⟨Nat.le_of_ble_eq_true rfl, Nat.le_of_ble_eq_true rfl⟩ dX11_way_67 ?_
              refine go_wid (k := 2) (n := 9) (Nat.le_of_ble_eq_true rfl) (Nat.le_of_ble_eq_true rfl) ?_
              obtain ⟨rfl, rfl⟩ := so_2 hf
              exact hret _ _ rfl dX11_way_70
          · replace hf := if_t c_18 hf
            refine go_bipush hC dX11_way_40 k8_m2 ?_
            refine go_wid (k := 2) (n := 9) (Nat.le_of_ble_eq_true rfl) (Nat.le_of_ble_eq_true rfl) ?_
            obtain ⟨rfl, rfl⟩ := so_2 hf
            exact hret _ _ rfl dX11_way_42
  · replace hf := if_t c_22 hf
    refine go_iconst hC dX11_way_12 k1_m1 ?_
    refine go_wid (k := 2) (n := 9) (Nat.le_of_ble_eq_true rfl) (Nat.le_of_ble_eq_true rfl) ?_
    obtain ⟨rfl, rfl⟩ := so_2 hf
    exact hret _ _ rfl dX11_way_13
def f_X11_wayOf (x1 : Int32) (h : PH) : Option (Option Nat) :=
  if x1 < 0 then (
  some none)
  else (
  if (h.1 0 5) ≤ x1 then (
  some none)
  else (
  if 6 ≤ x1 then (
  some none)
  else (
  ga_i x1 6 (
  mo_b (h.2.2.1 22 x1.toNatClampNeg) (
  some none) fun o_3 =>
  some (some o_3)))))
theorem e_X11_wayOf : yX11_wayOf.cls = RX11 ∧ yX11_wayOf.cls ≠ "java/lang/invoke/MethodHandle" ∧ yX11_wayOf.cls ≠ "java/lang/invoke/VarHandle" ∧ (parseMethodDescriptor yX11_wayOf.desc).map (fun d => d.parameters.length) = some 1 := by decide +kernel
set_option maxRecDepth 100000 in
set_option maxHeartbeats 4000000 in
theorem c_X11_wayOf (x1 : Int32) (h : PH) (r : Option Nat) (hf : f_X11_wayOf x1 h = some r) : Con yX11_wayOf wsX11_wayOf (rm_d 0) l0_B [.ref 0, .int x1] h (some (rv_o r)) h := by
  have hn11 : ∀ w ∈ wsX110, w ∈ wsX11_wayOf := (fun _ hw => (List.mem_cons_of_mem _ (List.mem_append_right _ hw)))
  refine con_r (cc := cX11_wayOf) (nL := 2) (by decide) rfl (Nat.le_of_ble_eq_true rfl) ?_
  intro C hC hret
  change Go l0_B C 0 0 0 [(0, .ref 0), (1, .int x1)] [] h
  unfold f_X11_wayOf at hf
  refine go_iload_n hC dX11_wayOf_0 rfl 1 rfl ?_
  refine go_if_lt hC dX11_wayOf_1 (tgt := 27) (by decide) (fun c_6 => ?_) (fun c_6 => ?_)
  · replace hf := if_t c_6 hf
    refine go_null hC dX11_wayOf_27 ?_
    obtain rfl := so_1 hf
    exact hret _ _ dX11_wayOf_28
  · replace hf := if_f c_6 hf
    refine go_iload_n hC dX11_wayOf_4 rfl 1 rfl ?_
    refine go_aload_n hC dX11_wayOf_5 rfl 0 rfl ?_
    refine go_geti hC (j := 5) (idx := 199) (nm := "waysEver") (ds := "I") (b_0 _) rfl rfl hn11 (Nat.le_of_ble_eq_true rfl) rfl rfl (List.mem_cons_of_mem _ (List.mem_append_left _ (List.mem_of_getElem? (i := 0) rfl))) (Or.inl rfl) dX11_wayOf_6 ?_
    refine go_icmp_ge hC dX11_wayOf_9 (tgt := 27) (by decide) (fun c_5 => ?_) (fun c_5 => ?_)
    · replace hf := if_t c_5 hf
      refine go_null hC dX11_wayOf_27 ?_
      obtain rfl := so_1 hf
      exact hret _ _ dX11_wayOf_28
    · replace hf := if_f c_5 hf
      refine go_iload_n hC dX11_wayOf_12 rfl 1 rfl ?_
      refine go_bipush hC dX11_wayOf_13 k8_6 ?_
      refine go_icmp_ge hC dX11_wayOf_15 (tgt := 27) (by decide) (fun c_4 => ?_) (fun c_4 => ?_)
      · replace hf := if_t c_4 hf
        refine go_null hC dX11_wayOf_27 ?_
        obtain rfl := so_1 hf
        exact hret _ _ dX11_wayOf_28
      · replace hf := if_f c_4 hf
        refine go_aload_n hC dX11_wayOf_18 rfl 0 rfl ?_
        refine go_getr hC (j := 4) (idx := 41) (nm := "ways") (ds := "[LLampWays$Chain;") (b_0 _) rfl rfl hn11 (Nat.le_of_ble_eq_true rfl) rfl rfl (List.mem_cons_of_mem _ (List.mem_append_left _ (List.mem_of_getElem? (i := 1) rfl))) (Or.inl rfl) dX11_wayOf_19 ?_
        refine go_iload_n hC dX11_wayOf_22 rfl 1 rfl ?_
        obtain ⟨g_1, hf⟩ := ga_e hf
        refine go_aald hC (b_22 _) g_1 dX11_wayOf_23 ?_
        rcases mo_e hf with ⟨q_2, hf⟩ | ⟨o_3, q_2, hf⟩
        · refine go_topn q_2 ?_
          refine go_goto hC dX11_wayOf_24 (tgt := 28) (by decide) ?_
          obtain rfl := so_1 hf
          exact hret _ _ dX11_wayOf_28
        · refine go_tops q_2 ?_
          refine go_goto hC dX11_wayOf_24 (tgt := 28) (by decide) ?_
          obtain rfl := so_1 hf
          exact hret _ _ dX11_wayOf_28
def f_X11_away (x1 : Int32) (h : PH) : Option (Int32 × PH) :=
  bd_1 (f_X11_wayOf x1 h) fun r_1 =>
  mo_b r_1 (
  some ((-1), h)) fun o_3 =>
  bd_1 (ch_at h o_3) fun z_4 =>
  gz_i (h.1 o_3 2) (
  bd_2 (f_X6_own z_4.2.1 z_4.2.2 (-9) h) fun r_6 h_7 =>
  gl_y h h_7 (
  ga_i x1 6 (
  lt_b (ph_w h_7 22 x1.toNatClampNeg none) fun h_9 =>
  gz_i (h_9.1 o_3 2) (
  some (Int32.ofNat z_4.2.2, h_9)))))
theorem e_X11_away : yX11_away.cls = RX11 ∧ yX11_away.cls ≠ "java/lang/invoke/MethodHandle" ∧ yX11_away.cls ≠ "java/lang/invoke/VarHandle" ∧ (parseMethodDescriptor yX11_away.desc).map (fun d => d.parameters.length) = some 1 := by decide +kernel
set_option maxRecDepth 100000 in
set_option maxHeartbeats 4000000 in
theorem c_X11_away (x1 : Int32) (h : PH) (h2 : PH) (r : Int32) (hf : f_X11_away x1 h = some (r, h2)) : Con yX11_away wsX11_away (rm_d 2) l0_B [.ref 0, .int x1] h (some (.int r)) h2 := by
  have hn1 : ∀ w ∈ wsX10, w ∈ wsX11_away := (fun _ hw => (List.mem_cons_of_mem _ (List.mem_append_left _ (List.mem_append_left _ (List.mem_append_left _ (List.mem_append_right _ hw))))))
  have hn11 : ∀ w ∈ wsX110, w ∈ wsX11_away := (fun _ hw => (List.mem_cons_of_mem _ (List.mem_append_left _ (List.mem_append_left _ (List.mem_append_left _ (List.mem_append_left _ (List.mem_append_right _ hw)))))))
  have hn7 : ∀ w ∈ wsX70, w ∈ wsX11_away := (fun _ hw => (List.mem_cons_of_mem _ (List.mem_append_left _ (List.mem_append_left _ (List.mem_append_right _ hw)))))
  have hn9 : ∀ w ∈ wsX90, w ∈ wsX11_away := (fun _ hw => (List.mem_cons_of_mem _ (List.mem_append_left _ (List.mem_append_right _ hw))))
  refine con_i (ty := .int) (cc := cX11_away) (nL := 3) (by decide) rfl (Nat.le_of_ble_eq_true rfl) ?_
  intro C hC hret
  change Go l0_B C 0 0 0 [(0, .ref 0), (1, .int x1)] [] h
  unfold f_X11_away at hf
  refine go_aload_n hC dX11_away_0 rfl 0 rfl ?_
  refine go_iload_n hC dX11_away_1 rfl 1 rfl ?_
  obtain ⟨r_1, hc, hf⟩ := bd_e1 hf
  refine go_callV hC (c_X11_wayOf x1 h r_1 hc) gX11_away_X11_wayOf rfl ⟨rfl, rfl⟩ 1 e_X11_wayOf ⟨Nat.le_of_ble_eq_true rfl, Nat.le_of_ble_eq_true rfl⟩ (b_0 _) rfl rfl (st := []) (st1 := (rv_o r_1 :: [])) rfl rfl (Nat.le_of_ble_eq_true rfl) ⟨Nat.zero_le _, Nat.zero_le _⟩ dX11_away_2 ?_
  rcases mo_e hf with ⟨q_2, hf⟩ | ⟨o_3, q_2, hf⟩
  · refine go_topn q_2 ?_
    refine go_astore_nN hC dX11_away_5 rfl (Nat.le_of_ble_eq_true rfl) rfl ?_
    refine go_aload_nN hC dX11_away_6 rfl 0 rfl ?_
    refine go_ifnonnullN hC dX11_away_7 ?_
    refine go_iconst hC dX11_away_10 k1_m1 ?_
    obtain ⟨rfl, rfl⟩ := so_2 hf
    exact hret _ _ rfl dX11_away_11
  · refine go_tops q_2 ?_
    obtain ⟨z_4, hz_4, hf⟩ := bd_e1 hf
    obtain ⟨hcz_4, hoz_4, haz_4⟩ := ch_e hz_4
    refine go_astore_n hC dX11_away_5 rfl (Nat.le_of_ble_eq_true rfl) rfl ?_
    refine go_aload_n hC dX11_away_6 rfl 0 rfl ?_
    refine go_ifnonnull hC dX11_away_7 (tgt := 12) (by decide) ?_
    refine go_aload_n hC dX11_away_12 rfl 1 rfl ?_
    refine go_getr hC (j := 3) (idx := 35) (nm := "points") (ds := "LLampWays$Points;") (b_0 _) rfl rfl hn11 (Nat.le_of_ble_eq_true rfl) rfl rfl (List.mem_cons_of_mem _ (List.mem_append_left _ (List.mem_append_left _ (List.mem_append_left _ (List.mem_append_left _ (List.mem_append_left _ (List.mem_of_getElem? (i := 0) rfl))))))) (Or.inl rfl) dX11_away_13 ?_
    refine go_aload_n hC dX11_away_16 rfl 0 rfl ?_
    obtain ⟨g_5, hf⟩ := gz_e hf
    refine go_ways hC hoz_4 hcz_4 hn1 hn7 hn9 (List.mem_cons_of_mem _ (List.mem_append_left _ (List.mem_append_left _ (List.mem_append_left _ (List.mem_append_left _ (List.mem_append_left _ (List.mem_of_getElem? (i := 1) rfl))))))) g_5 dX11_away_17 ?_
    refine go_bipush hC dX11_away_20 k8_m9 ?_
    obtain ⟨r_6, h_7, hc, hf⟩ := bd_e2 hf
    refine go_callV hC (c_X6_own z_4.2.1 z_4.2.2 (-9) h h_7 haz_4 hc) gX11_away_X6_own rfl ⟨rfl, rfl⟩ 2 e_X6_own ⟨Nat.le_of_ble_eq_true rfl, Nat.le_of_ble_eq_true rfl⟩ (b_17 _) rfl rfl (st := []) (st1 := []) rfl rfl (Nat.le_of_ble_eq_true rfl) ⟨Nat.zero_le _, Nat.zero_le _⟩ dX11_away_22 ?_
    obtain ⟨hl9, hf⟩ := gl_e hf
    replace hoz_4 : (l0_B ++ h_7.2.2.2)[o_3]? = some (.inr (z_4.1, [(0, 0), (0, 0), (2, z_4.2.1)])) := by rw [hl9]; exact hoz_4
    replace haz_4 : (l0_B ++ h_7.2.2.2)[z_4.2.1]? = some (.inl (0, z_4.2.2)) := by rw [hl9]; exact haz_4
    refine go_aload_n hC dX11_away_25 rfl 1 rfl ?_
    refine go_getr hC (j := 4) (idx := 41) (nm := "ways") (ds := "[LLampWays$Chain;") (b_0 _) rfl rfl hn11 (Nat.le_of_ble_eq_true rfl) rfl rfl (List.mem_cons_of_mem _ (List.mem_append_left _ (List.mem_append_left _ (List.mem_append_left _ (List.mem_append_left _ (List.mem_append_left _ (List.mem_of_getElem? (i := 2) rfl))))))) (Or.inl rfl) dX11_away_26 ?_
    refine go_iload_n hC dX11_away_29 rfl 2 rfl ?_
    refine go_null hC dX11_away_30 ?_
    obtain ⟨g_8, hf⟩ := ga_e hf
    obtain ⟨h_9, eh_9, hf⟩ := lt_e hf
    refine go_aastN hC (b_22 _) g_8 dX11_away_31 ?_
    refine go_toph eh_9 ?_
    replace hoz_4 : (l0_B ++ h_9.2.2.2)[o_3]? = some (.inr (z_4.1, [(0, 0), (0, 0), (2, z_4.2.1)])) := by rw [eh_9]; exact hoz_4
    replace haz_4 : (l0_B ++ h_9.2.2.2)[z_4.2.1]? = some (.inl (0, z_4.2.2)) := by rw [eh_9]; exact haz_4
    refine go_aload_n hC dX11_away_32 rfl 0 rfl ?_
    obtain ⟨g_10, hf⟩ := gz_e hf
    refine go_ways hC hoz_4 hcz_4 hn1 hn7 hn9 (List.mem_cons_of_mem _ (List.mem_append_left _ (List.mem_append_left _ (List.mem_append_left _ (List.mem_append_left _ (List.mem_append_left _ (List.mem_of_getElem? (i := 1) rfl))))))) g_10 dX11_away_33 ?_
    refine go_alen hC haz_4 (Nat.le_of_ble_eq_true rfl) rfl dX11_away_36 ?_
    obtain ⟨rfl, rfl⟩ := so_2 hf
    exact hret _ _ rfl dX11_away_37
def vd_kind (ci a n o : Nat) (h : PH) : Option (Int32) := if ci = 1 then f_X1_kind ci a n o h else if ci = 7 then f_X7_kind ci a n o h else f_X9_kind ci a n o h
def f_X11_ofWay (x1 : Int32) (x2 : Int32) (h : PH) : Option (Int32) :=
  bd_1 (f_X11_wayOf x1 h) fun r_1 =>
  mo_b r_1 (
  some (-1)) fun o_3 =>
  bd_1 (ch_at h o_3) fun z_4 =>
  if x2 < 10 then (
  if x2 = 0 then (
  bd_1 (vd_kind z_4.1 z_4.2.1 z_4.2.2 o_3 h) fun r_9 =>
  some r_9)
  else (
  if x2 = 1 then (
  some (h.1 o_3 1))
  else (
  if x2 = 2 then (
  gz_i (h.1 o_3 2) (
  some (Int32.ofNat z_4.2.2)))
  else (
  if x2 = 3 then (
  bd_1 (vd_pieces z_4.1 z_4.2.1 z_4.2.2 o_3 h) fun r_11 =>
  some r_11)
  else (
  some (-2))))))
  else (
  gz_i (h.1 o_3 2) (
  if (Int32.ofNat z_4.2.2) ≤ (x2 - 10) then (
  if x2 = 0 then (
  bd_1 (vd_kind z_4.1 z_4.2.1 z_4.2.2 o_3 h) fun r_17 =>
  some r_17)
  else (
  if x2 = 1 then (
  some (h.1 o_3 1))
  else (
  if x2 = 2 then (
  gz_i (h.1 o_3 2) (
  some (Int32.ofNat z_4.2.2)))
  else (
  if x2 = 3 then (
  bd_1 (vd_pieces z_4.1 z_4.2.1 z_4.2.2 o_3 h) fun r_19 =>
  some r_19)
  else (
  some (-2))))))
  else (
  gz_i (h.1 o_3 2) (
  ga_i (x2 - 10) z_4.2.2 (
  some (h.1 z_4.2.1 (x2 - 10).toNatClampNeg))))))
set_option maxRecDepth 100000 in
theorem vc_X11_ofWay_73 {C : GC} (hC : Cx C cX11_ofWay 4 wsX11_ofWay RX11 (some .int) (rm_d 1)) (ci a n o : Nat) (hci : ci = 1 ∨ ci = 7 ∨ ci = 9)  (h : PH) (r : Int32) (ho : (l0_B ++ h.2.2.2)[o]? = some (.inr (ci, [(0, 0), (0, 0), (2, a)]))) (ha : (l0_B ++ h.2.2.2)[a]? = some (.inl (0, n))) (hc : vd_kind ci a n o h = some r) {L : List (Nat × Value)} {st : List Value} (hsum : (st.map fun v => v.category).sum ≤ 8) (kk : Go l0_B C 0 0 76 L (.int r :: st) h) : Go l0_B C 0 0 73 L (.ref o :: st) h := by
  rcases hci with rfl | rfl | rfl
  · exact go_callV hC (c_X1_kind_X1 a n o h r ho ha hc) gX11_ofWay_X1_kind rfl ⟨rfl, rfl⟩ 0 e_X1_kind ⟨Nat.le_of_ble_eq_true rfl, Nat.le_of_ble_eq_true rfl⟩ ho rfl rfl (st := st) (st1 := (.int r :: st)) rfl rfl hsum ⟨Nat.zero_le _, Nat.zero_le _⟩ dX11_ofWay_73 kk
  · exact go_callO hC (c_X7_kind_X7 a n o h r ho ha hc) gX11_ofWay_X7_kind_u216X7 rfl ⟨rfl, rfl⟩ (List.mem_cons_of_mem _ (List.mem_append_left _ (List.mem_append_left _ (List.mem_append_left _ (List.mem_append_left _ (List.mem_append_left _ (List.mem_of_getElem? (i := 13) rfl))))))) 0 (by decide +kernel) ⟨Nat.le_of_ble_eq_true rfl, Nat.le_of_ble_eq_true rfl⟩ ho rfl rfl (st := st) (st1 := (.int r :: st)) rfl rfl hsum ⟨Nat.zero_le _, Nat.zero_le _⟩ dX11_ofWay_73 kk
  · exact go_callO hC (c_X9_kind_X9 a n o h r ho ha hc) gX11_ofWay_X9_kind_u216X9 rfl ⟨rfl, rfl⟩ (List.mem_cons_of_mem _ (List.mem_append_left _ (List.mem_append_left _ (List.mem_append_left _ (List.mem_append_left _ (List.mem_append_left _ (List.mem_of_getElem? (i := 13) rfl))))))) 0 (by decide +kernel) ⟨Nat.le_of_ble_eq_true rfl, Nat.le_of_ble_eq_true rfl⟩ ho rfl rfl (st := st) (st1 := (.int r :: st)) rfl rfl hsum ⟨Nat.zero_le _, Nat.zero_le _⟩ dX11_ofWay_73 kk
set_option maxRecDepth 100000 in
theorem vc_X11_ofWay_89 {C : GC} (hC : Cx C cX11_ofWay 4 wsX11_ofWay RX11 (some .int) (rm_d 1)) (ci a n o : Nat) (hci : ci = 1 ∨ ci = 7 ∨ ci = 9)  (h : PH) (r : Int32) (ho : (l0_B ++ h.2.2.2)[o]? = some (.inr (ci, [(0, 0), (0, 0), (2, a)]))) (ha : (l0_B ++ h.2.2.2)[a]? = some (.inl (0, n))) (hc : vd_pieces ci a n o h = some r) {L : List (Nat × Value)} {st : List Value} (hsum : (st.map fun v => v.category).sum ≤ 8) (kk : Go l0_B C 0 0 92 L (.int r :: st) h) : Go l0_B C 0 0 89 L (.ref o :: st) h := by
  rcases hci with rfl | rfl | rfl
  · exact go_callV hC (c_X1_pieces_X1 a n o h r ho ha hc) gX11_ofWay_X1_pieces rfl ⟨rfl, rfl⟩ 0 e_X1_pieces ⟨Nat.le_of_ble_eq_true rfl, Nat.le_of_ble_eq_true rfl⟩ ho rfl rfl (st := st) (st1 := (.int r :: st)) rfl rfl hsum ⟨Nat.zero_le _, Nat.zero_le _⟩ dX11_ofWay_89 kk
  · exact go_callO hC (c_X7_pieces_X7 a n o h r ho ha hc) gX11_ofWay_X7_pieces_u222X7 rfl ⟨rfl, rfl⟩ (List.mem_cons_of_mem _ (List.mem_append_left _ (List.mem_append_left _ (List.mem_append_left _ (List.mem_append_left _ (List.mem_append_right _ (List.mem_of_getElem? (i := 4) rfl))))))) 0 (by decide +kernel) ⟨Nat.le_of_ble_eq_true rfl, Nat.le_of_ble_eq_true rfl⟩ ho rfl rfl (st := st) (st1 := (.int r :: st)) rfl rfl hsum ⟨Nat.zero_le _, Nat.zero_le _⟩ dX11_ofWay_89 kk
  · exact go_callO hC (c_X7_pieces_X9 a n o h r ho ha hc) gX11_ofWay_X7_pieces_u222X9 rfl ⟨rfl, rfl⟩ (List.mem_cons_of_mem _ (List.mem_append_left _ (List.mem_append_left _ (List.mem_append_left _ (List.mem_append_left _ (List.mem_append_right _ (List.mem_of_getElem? (i := 4) rfl))))))) 0 (by decide +kernel) ⟨Nat.le_of_ble_eq_true rfl, Nat.le_of_ble_eq_true rfl⟩ ho rfl rfl (st := st) (st1 := (.int r :: st)) rfl rfl hsum ⟨Nat.zero_le _, Nat.zero_le _⟩ dX11_ofWay_89 kk
theorem e_X11_ofWay : yX11_ofWay.cls = RX11 ∧ yX11_ofWay.cls ≠ "java/lang/invoke/MethodHandle" ∧ yX11_ofWay.cls ≠ "java/lang/invoke/VarHandle" ∧ (parseMethodDescriptor yX11_ofWay.desc).map (fun d => d.parameters.length) = some 2 := by decide +kernel
set_option maxRecDepth 100000 in
set_option maxHeartbeats 4000000 in
theorem c_X11_ofWay (x1 : Int32) (x2 : Int32) (h : PH) (r : Int32) (hf : f_X11_ofWay x1 x2 h = some r) : Con yX11_ofWay wsX11_ofWay (rm_d 1) l0_B [.ref 0, .int x1, .int x2] h (some (.int r)) h := by
  have hn1 : ∀ w ∈ wsX10, w ∈ wsX11_ofWay := (fun _ hw => (List.mem_cons_of_mem _ (List.mem_append_left _ (List.mem_append_left _ (List.mem_append_left _ (List.mem_append_right _ hw))))))
  have hn7 : ∀ w ∈ wsX70, w ∈ wsX11_ofWay := (fun _ hw => (List.mem_cons_of_mem _ (List.mem_append_left _ (List.mem_append_left _ (List.mem_append_right _ hw)))))
  have hn9 : ∀ w ∈ wsX90, w ∈ wsX11_ofWay := (fun _ hw => (List.mem_cons_of_mem _ (List.mem_append_left _ (List.mem_append_right _ hw))))
  refine con_i (ty := .int) (cc := cX11_ofWay) (nL := 4) (by decide) rfl (Nat.le_of_ble_eq_true rfl) ?_
  intro C hC hret
  change Go l0_B C 0 0 0 [(0, .ref 0), (1, .int x1), (2, .int x2)] [] h
  unfold f_X11_ofWay at hf
  refine go_aload_n hC dX11_ofWay_0 rfl 0 rfl ?_
  refine go_iload_n hC dX11_ofWay_1 rfl 1 rfl ?_
  obtain ⟨r_1, hc, hf⟩ := bd_e1 hf
  refine go_callV hC (c_X11_wayOf x1 h r_1 hc) gX11_ofWay_X11_wayOf rfl ⟨rfl, rfl⟩ 1 e_X11_wayOf ⟨Nat.le_of_ble_eq_true rfl, Nat.le_of_ble_eq_true rfl⟩ (b_0 _) rfl rfl (st := []) (st1 := (rv_o r_1 :: [])) rfl rfl (Nat.le_of_ble_eq_true rfl) ⟨Nat.zero_le _, Nat.zero_le _⟩ dX11_ofWay_2 ?_
  rcases mo_e hf with ⟨q_2, hf⟩ | ⟨o_3, q_2, hf⟩
  · refine go_topn q_2 ?_
    refine go_astore_nN hC dX11_ofWay_5 rfl (Nat.le_of_ble_eq_true rfl) rfl ?_
    refine go_aload_nN hC dX11_ofWay_6 rfl 0 rfl ?_
    refine go_ifnonnullN hC dX11_ofWay_7 ?_
    refine go_iconst hC dX11_ofWay_10 k1_m1 ?_
    obtain rfl := so_1 hf
    exact hret _ _ rfl dX11_ofWay_11
  · refine go_tops q_2 ?_
    obtain ⟨z_4, hz_4, hf⟩ := bd_e1 hf
    obtain ⟨hcz_4, hoz_4, haz_4⟩ := ch_e hz_4
    refine go_astore_n hC dX11_ofWay_5 rfl (Nat.le_of_ble_eq_true rfl) rfl ?_
    refine go_aload_n hC dX11_ofWay_6 rfl 0 rfl ?_
    refine go_ifnonnull hC dX11_ofWay_7 (tgt := 12) (by decide) ?_
    refine go_iload_n hC dX11_ofWay_12 rfl 3 rfl ?_
    refine go_bipush hC dX11_ofWay_13 k8_10 ?_
    refine go_icmp_lt hC dX11_ofWay_15 (tgt := 40) (by decide) (fun c_23 => ?_) (fun c_23 => ?_)
    · replace hf := if_t c_23 hf
      refine go_iload_n hC dX11_ofWay_40 rfl 3 rfl ?_
      by_cases c_5 : x2 = 0
      · replace hf := if_t c_5 hf
        refine go_tab hC dX11_ofWay_41 c_5 (off := 31) (by decide) (by decide) (by decide) (tgt := 72) (by decide) ?_
        refine go_aload_n hC dX11_ofWay_72 rfl 0 rfl ?_
        obtain ⟨r_9, hc, hf⟩ := bd_e1 hf
        refine vc_X11_ofWay_73 hC z_4.1 z_4.2.1 z_4.2.2 o_3 hcz_4 h r_9 hoz_4 haz_4 hc (st := []) (Nat.le_of_ble_eq_true rfl) ?_
        obtain rfl := so_1 hf
        exact hret _ _ rfl dX11_ofWay_76
      · replace hf := if_f c_5 hf
        by_cases c_6 : x2 = 1
        · replace hf := if_t c_6 hf
          refine go_tab hC dX11_ofWay_41 c_6 (off := 36) (by decide) (by decide) (by decide) (tgt := 77) (by decide) ?_
          refine go_aload_n hC dX11_ofWay_77 rfl 0 rfl ?_
          refine go_wayi hC (j := 1) hoz_4 hcz_4 hn1 hn7 hn9 (Or.inr ⟨rfl, rfl⟩) (List.mem_cons_of_mem _ (List.mem_append_left _ (List.mem_append_left _ (List.mem_append_left _ (List.mem_append_left _ (List.mem_append_left _ (List.mem_of_getElem? (i := 1) rfl))))))) dX11_ofWay_78 ?_
          obtain rfl := so_1 hf
          exact hret _ _ rfl dX11_ofWay_81
        · replace hf := if_f c_6 hf
          by_cases c_7 : x2 = 2
          · replace hf := if_t c_7 hf
            refine go_tab hC dX11_ofWay_41 c_7 (off := 41) (by decide) (by decide) (by decide) (tgt := 82) (by decide) ?_
            refine go_aload_n hC dX11_ofWay_82 rfl 0 rfl ?_
            obtain ⟨g_10, hf⟩ := gz_e hf
            refine go_ways hC hoz_4 hcz_4 hn1 hn7 hn9 (List.mem_cons_of_mem _ (List.mem_append_left _ (List.mem_append_left _ (List.mem_append_left _ (List.mem_append_left _ (List.mem_append_left _ (List.mem_of_getElem? (i := 0) rfl))))))) g_10 dX11_ofWay_83 ?_
            refine go_alen hC haz_4 (Nat.le_of_ble_eq_true rfl) rfl dX11_ofWay_86 ?_
            obtain rfl := so_1 hf
            exact hret _ _ rfl dX11_ofWay_87
          · replace hf := if_f c_7 hf
            by_cases c_8 : x2 = 3
            · replace hf := if_t c_8 hf
              refine go_tab hC dX11_ofWay_41 c_8 (off := 47) (by decide) (by decide) (by decide) (tgt := 88) (by decide) ?_
              refine go_aload_n hC dX11_ofWay_88 rfl 0 rfl ?_
              obtain ⟨r_11, hc, hf⟩ := bd_e1 hf
              refine vc_X11_ofWay_89 hC z_4.1 z_4.2.1 z_4.2.2 o_3 hcz_4 h r_11 hoz_4 haz_4 hc (st := []) (Nat.le_of_ble_eq_true rfl) ?_
              obtain rfl := so_1 hf
              exact hret _ _ rfl dX11_ofWay_92
            · replace hf := if_f c_8 hf
              refine go_tabOut hC dX11_ofWay_41 (tb_4 c_5 c_6 c_7 c_8) (tgt := 93) (by decide) ?_
              refine go_bipush hC dX11_ofWay_93 k8_m2 ?_
              obtain rfl := so_1 hf
              exact hret _ _ rfl dX11_ofWay_95
    · replace hf := if_f c_23 hf
      refine go_iload_n hC dX11_ofWay_18 rfl 3 rfl ?_
      refine go_bipush hC dX11_ofWay_19 k8_10 ?_
      refine go_isub hC dX11_ofWay_21 ?_
      refine go_aload_n hC dX11_ofWay_22 rfl 0 rfl ?_
      obtain ⟨g_12, hf⟩ := gz_e hf
      refine go_ways hC hoz_4 hcz_4 hn1 hn7 hn9 (List.mem_cons_of_mem _ (List.mem_append_left _ (List.mem_append_left _ (List.mem_append_left _ (List.mem_append_left _ (List.mem_append_left _ (List.mem_of_getElem? (i := 0) rfl))))))) g_12 dX11_ofWay_23 ?_
      refine go_alen hC haz_4 (Nat.le_of_ble_eq_true rfl) rfl dX11_ofWay_26 ?_
      refine go_icmp_ge hC dX11_ofWay_27 (tgt := 40) (by decide) (fun c_22 => ?_) (fun c_22 => ?_)
      · replace hf := if_t c_22 hf
        refine go_iload_n hC dX11_ofWay_40 rfl 3 rfl ?_
        by_cases c_13 : x2 = 0
        · replace hf := if_t c_13 hf
          refine go_tab hC dX11_ofWay_41 c_13 (off := 31) (by decide) (by decide) (by decide) (tgt := 72) (by decide) ?_
          refine go_aload_n hC dX11_ofWay_72 rfl 0 rfl ?_
          obtain ⟨r_17, hc, hf⟩ := bd_e1 hf
          refine vc_X11_ofWay_73 hC z_4.1 z_4.2.1 z_4.2.2 o_3 hcz_4 h r_17 hoz_4 haz_4 hc (st := []) (Nat.le_of_ble_eq_true rfl) ?_
          obtain rfl := so_1 hf
          exact hret _ _ rfl dX11_ofWay_76
        · replace hf := if_f c_13 hf
          by_cases c_14 : x2 = 1
          · replace hf := if_t c_14 hf
            refine go_tab hC dX11_ofWay_41 c_14 (off := 36) (by decide) (by decide) (by decide) (tgt := 77) (by decide) ?_
            refine go_aload_n hC dX11_ofWay_77 rfl 0 rfl ?_
            refine go_wayi hC (j := 1) hoz_4 hcz_4 hn1 hn7 hn9 (Or.inr ⟨rfl, rfl⟩) (List.mem_cons_of_mem _ (List.mem_append_left _ (List.mem_append_left _ (List.mem_append_left _ (List.mem_append_left _ (List.mem_append_left _ (List.mem_of_getElem? (i := 1) rfl))))))) dX11_ofWay_78 ?_
            obtain rfl := so_1 hf
            exact hret _ _ rfl dX11_ofWay_81
          · replace hf := if_f c_14 hf
            by_cases c_15 : x2 = 2
            · replace hf := if_t c_15 hf
              refine go_tab hC dX11_ofWay_41 c_15 (off := 41) (by decide) (by decide) (by decide) (tgt := 82) (by decide) ?_
              refine go_aload_n hC dX11_ofWay_82 rfl 0 rfl ?_
              obtain ⟨g_18, hf⟩ := gz_e hf
              refine go_ways hC hoz_4 hcz_4 hn1 hn7 hn9 (List.mem_cons_of_mem _ (List.mem_append_left _ (List.mem_append_left _ (List.mem_append_left _ (List.mem_append_left _ (List.mem_append_left _ (List.mem_of_getElem? (i := 0) rfl))))))) g_18 dX11_ofWay_83 ?_
              refine go_alen hC haz_4 (Nat.le_of_ble_eq_true rfl) rfl dX11_ofWay_86 ?_
              obtain rfl := so_1 hf
              exact hret _ _ rfl dX11_ofWay_87
            · replace hf := if_f c_15 hf
              by_cases c_16 : x2 = 3
              · replace hf := if_t c_16 hf
                refine go_tab hC dX11_ofWay_41 c_16 (off := 47) (by decide) (by decide) (by decide) (tgt := 88) (by decide) ?_
                refine go_aload_n hC dX11_ofWay_88 rfl 0 rfl ?_
                obtain ⟨r_19, hc, hf⟩ := bd_e1 hf
                refine vc_X11_ofWay_89 hC z_4.1 z_4.2.1 z_4.2.2 o_3 hcz_4 h r_19 hoz_4 haz_4 hc (st := []) (Nat.le_of_ble_eq_true rfl) ?_
                obtain rfl := so_1 hf
                exact hret _ _ rfl dX11_ofWay_92
              · replace hf := if_f c_16 hf
                refine go_tabOut hC dX11_ofWay_41 (tb_4 c_13 c_14 c_15 c_16) (tgt := 93) (by decide) ?_
                refine go_bipush hC dX11_ofWay_93 k8_m2 ?_
                obtain rfl := so_1 hf
                exact hret _ _ rfl dX11_ofWay_95
      · replace hf := if_f c_22 hf
        refine go_aload_n hC dX11_ofWay_30 rfl 0 rfl ?_
        obtain ⟨g_20, hf⟩ := gz_e hf
        refine go_ways hC hoz_4 hcz_4 hn1 hn7 hn9 (List.mem_cons_of_mem _ (List.mem_append_left _ (List.mem_append_left _ (List.mem_append_left _ (List.mem_append_left _ (List.mem_append_left _ (List.mem_of_getElem? (i := 0) rfl))))))) g_20 dX11_ofWay_31 ?_
        refine go_iload_n hC dX11_ofWay_34 rfl 3 rfl ?_
        refine go_bipush hC dX11_ofWay_35 k8_10 ?_
        refine go_isub hC dX11_ofWay_37 ?_
        obtain ⟨g_21, hf⟩ := ga_e hf
        refine go_iald hC haz_4 g_21 dX11_ofWay_38 ?_
        obtain rfl := so_1 hf
        exact hret _ _ rfl dX11_ofWay_39
def vd_strands (ci a n o : Nat) (h : PH) : Option (Int32) := if ci = 1 then f_X1_strands ci a n o h else if ci = 7 then f_X1_strands ci a n o h else f_X9_strands ci a n o h
def f_X11_cable (x1 : Int32) (x2 : Int32) (h : PH) : Option (Int32) :=
  bd_1 (f_X11_wayOf x1 h) fun r_1 =>
  mo_b r_1 (
  some (-1)) fun o_3 =>
  bd_1 (ch_at h o_3) fun z_4 =>
  if x2 < 0 then (
  some (-2))
  else (
  if x2 ≤ 1 then (
  bd_1 (f_X1_canBeLaid z_4.1 z_4.2.1 z_4.2.2 o_3 h) fun r_5 =>
  if r_5 = 0 then (
  some (-3))
  else (
  if x2 = 0 then (
  bd_1 (vd_strands z_4.1 z_4.2.1 z_4.2.2 o_3 h) fun r_7 =>
  bd_1 (f_X1_allYards z_4.1 z_4.2.1 z_4.2.2 o_3 h) fun r_8 =>
  some (r_7 * r_8))
  else (
  bd_1 (f_X1_allDrilled z_4.1 z_4.2.1 z_4.2.2 o_3 h) fun r_6 =>
  some r_6)))
  else (
  some (-2)))
set_option maxRecDepth 100000 in
theorem vc_X11_cable_33 {C : GC} (hC : Cx C cX11_cable 4 wsX11_cable RX11 (some .int) (rm_d 3)) (ci a n o : Nat) (hci : ci = 1 ∨ ci = 7 ∨ ci = 9)  (h : PH) (r : Int32) (ho : (l0_B ++ h.2.2.2)[o]? = some (.inr (ci, [(0, 0), (0, 0), (2, a)]))) (ha : (l0_B ++ h.2.2.2)[a]? = some (.inl (0, n))) (hc : f_X1_canBeLaid ci a n o h = some r) {L : List (Nat × Value)} {st : List Value} (hsum : (st.map fun v => v.category).sum ≤ 8) (kk : Go l0_B C 0 0 36 L (.int r :: st) h) : Go l0_B C 0 0 33 L (.ref 17 :: .ref 10 :: .ref o :: st) h := by
  rcases hci with rfl | rfl | rfl
  · exact go_callV hC (c_X1_canBeLaid_X1 a n o h r ho ha hc) gX11_cable_X1_canBeLaid rfl ⟨rfl, rfl⟩ 2 e_X1_canBeLaid ⟨Nat.le_of_ble_eq_true rfl, Nat.le_of_ble_eq_true rfl⟩ ho rfl rfl (st := st) (st1 := (.int r :: st)) rfl rfl hsum ⟨Nat.zero_le _, Nat.zero_le _⟩ dX11_cable_33 kk
  · exact go_callU hC (c_X1_canBeLaid_X7 a n o h r ho ha hc) gX11_cable_X1_canBeLaid_u225X7 rfl ⟨rfl, rfl⟩ rfl 2 (by decide +kernel) ⟨Nat.le_of_ble_eq_true rfl, Nat.le_of_ble_eq_true rfl⟩ ho rfl rfl (st := st) (st1 := (.int r :: st)) rfl rfl hsum ⟨Nat.zero_le _, Nat.zero_le _⟩ dX11_cable_33 kk
  · exact go_callU hC (c_X1_canBeLaid_X9 a n o h r ho ha hc) gX11_cable_X1_canBeLaid_u225X9 rfl ⟨rfl, rfl⟩ rfl 2 (by decide +kernel) ⟨Nat.le_of_ble_eq_true rfl, Nat.le_of_ble_eq_true rfl⟩ ho rfl rfl (st := st) (st1 := (.int r :: st)) rfl rfl hsum ⟨Nat.zero_le _, Nat.zero_le _⟩ dX11_cable_33 kk
set_option maxRecDepth 100000 in
theorem vc_X11_cable_75 {C : GC} (hC : Cx C cX11_cable 4 wsX11_cable RX11 (some .int) (rm_d 3)) (ci a n o : Nat) (hci : ci = 1 ∨ ci = 7 ∨ ci = 9)  (h : PH) (r : Int32) (ho : (l0_B ++ h.2.2.2)[o]? = some (.inr (ci, [(0, 0), (0, 0), (2, a)]))) (ha : (l0_B ++ h.2.2.2)[a]? = some (.inl (0, n))) (hc : f_X1_allDrilled ci a n o h = some r) {L : List (Nat × Value)} {st : List Value} (hsum : (st.map fun v => v.category).sum ≤ 8) (kk : Go l0_B C 0 0 78 L (.int r :: st) h) : Go l0_B C 0 0 75 L (.ref 17 :: .ref 10 :: .ref o :: st) h := by
  rcases hci with rfl | rfl | rfl
  · exact go_callV hC (c_X1_allDrilled_X1 a n o h r ho ha hc) gX11_cable_X1_allDrilled rfl ⟨rfl, rfl⟩ 2 e_X1_allDrilled ⟨Nat.le_of_ble_eq_true rfl, Nat.le_of_ble_eq_true rfl⟩ ho rfl rfl (st := st) (st1 := (.int r :: st)) rfl rfl hsum ⟨Nat.zero_le _, Nat.zero_le _⟩ dX11_cable_75 kk
  · exact go_callU hC (c_X1_allDrilled_X7 a n o h r ho ha hc) gX11_cable_X1_allDrilled_u236X7 rfl ⟨rfl, rfl⟩ rfl 2 (by decide +kernel) ⟨Nat.le_of_ble_eq_true rfl, Nat.le_of_ble_eq_true rfl⟩ ho rfl rfl (st := st) (st1 := (.int r :: st)) rfl rfl hsum ⟨Nat.zero_le _, Nat.zero_le _⟩ dX11_cable_75 kk
  · exact go_callU hC (c_X1_allDrilled_X9 a n o h r ho ha hc) gX11_cable_X1_allDrilled_u236X9 rfl ⟨rfl, rfl⟩ rfl 2 (by decide +kernel) ⟨Nat.le_of_ble_eq_true rfl, Nat.le_of_ble_eq_true rfl⟩ ho rfl rfl (st := st) (st1 := (.int r :: st)) rfl rfl hsum ⟨Nat.zero_le _, Nat.zero_le _⟩ dX11_cable_75 kk
set_option maxRecDepth 100000 in
theorem vc_X11_cable_47 {C : GC} (hC : Cx C cX11_cable 4 wsX11_cable RX11 (some .int) (rm_d 3)) (ci a n o : Nat) (hci : ci = 1 ∨ ci = 7 ∨ ci = 9)  (h : PH) (r : Int32) (ho : (l0_B ++ h.2.2.2)[o]? = some (.inr (ci, [(0, 0), (0, 0), (2, a)]))) (ha : (l0_B ++ h.2.2.2)[a]? = some (.inl (0, n))) (hc : vd_strands ci a n o h = some r) {L : List (Nat × Value)} {st : List Value} (hsum : (st.map fun v => v.category).sum ≤ 8) (kk : Go l0_B C 0 0 50 L (.int r :: st) h) : Go l0_B C 0 0 47 L (.ref o :: st) h := by
  rcases hci with rfl | rfl | rfl
  · exact go_callV hC (c_X1_strands_X1 a n o h r ho ha hc) gX11_cable_X1_strands rfl ⟨rfl, rfl⟩ 0 e_X1_strands ⟨Nat.le_of_ble_eq_true rfl, Nat.le_of_ble_eq_true rfl⟩ ho rfl rfl (st := st) (st1 := (.int r :: st)) rfl rfl hsum ⟨Nat.zero_le _, Nat.zero_le _⟩ dX11_cable_47 kk
  · exact go_callU hC (c_X1_strands_X7 a n o h r ho ha hc) gX11_cable_X1_strands_u229X7 rfl ⟨rfl, rfl⟩ rfl 0 (by decide +kernel) ⟨Nat.le_of_ble_eq_true rfl, Nat.le_of_ble_eq_true rfl⟩ ho rfl rfl (st := st) (st1 := (.int r :: st)) rfl rfl hsum ⟨Nat.zero_le _, Nat.zero_le _⟩ dX11_cable_47 kk
  · exact go_callO hC (c_X9_strands_X9 a n o h r ho ha hc) gX11_cable_X9_strands_u229X9 rfl ⟨rfl, rfl⟩ (List.mem_cons_of_mem _ (List.mem_append_left _ (List.mem_append_left _ (List.mem_append_left _ (List.mem_append_left _ (List.mem_append_left _ (List.mem_append_left _ (List.mem_append_right _ (List.mem_append_right _ (List.mem_append_left _ (List.mem_of_getElem? (i := 14) rfl))))))))))) 0 (by decide +kernel) ⟨Nat.le_of_ble_eq_true rfl, Nat.le_of_ble_eq_true rfl⟩ ho rfl rfl (st := st) (st1 := (.int r :: st)) rfl rfl hsum ⟨Nat.zero_le _, Nat.zero_le _⟩ dX11_cable_47 kk
set_option maxRecDepth 100000 in
theorem vc_X11_cable_59 {C : GC} (hC : Cx C cX11_cable 4 wsX11_cable RX11 (some .int) (rm_d 3)) (ci a n o : Nat) (hci : ci = 1 ∨ ci = 7 ∨ ci = 9)  (h : PH) (r : Int32) (ho : (l0_B ++ h.2.2.2)[o]? = some (.inr (ci, [(0, 0), (0, 0), (2, a)]))) (ha : (l0_B ++ h.2.2.2)[a]? = some (.inl (0, n))) (hc : f_X1_allYards ci a n o h = some r) {L : List (Nat × Value)} {st : List Value} (hsum : (st.map fun v => v.category).sum ≤ 8) (kk : Go l0_B C 0 0 62 L (.int r :: st) h) : Go l0_B C 0 0 59 L (.ref 17 :: .ref 10 :: .ref o :: st) h := by
  rcases hci with rfl | rfl | rfl
  · exact go_callV hC (c_X1_allYards_X1 a n o h r ho ha hc) gX11_cable_X1_allYards rfl ⟨rfl, rfl⟩ 2 e_X1_allYards ⟨Nat.le_of_ble_eq_true rfl, Nat.le_of_ble_eq_true rfl⟩ ho rfl rfl (st := st) (st1 := (.int r :: st)) rfl rfl hsum ⟨Nat.zero_le _, Nat.zero_le _⟩ dX11_cable_59 kk
  · exact go_callU hC (c_X1_allYards_X7 a n o h r ho ha hc) gX11_cable_X1_allYards_u232X7 rfl ⟨rfl, rfl⟩ rfl 2 (by decide +kernel) ⟨Nat.le_of_ble_eq_true rfl, Nat.le_of_ble_eq_true rfl⟩ ho rfl rfl (st := st) (st1 := (.int r :: st)) rfl rfl hsum ⟨Nat.zero_le _, Nat.zero_le _⟩ dX11_cable_59 kk
  · exact go_callU hC (c_X1_allYards_X9 a n o h r ho ha hc) gX11_cable_X1_allYards_u232X9 rfl ⟨rfl, rfl⟩ rfl 2 (by decide +kernel) ⟨Nat.le_of_ble_eq_true rfl, Nat.le_of_ble_eq_true rfl⟩ ho rfl rfl (st := st) (st1 := (.int r :: st)) rfl rfl hsum ⟨Nat.zero_le _, Nat.zero_le _⟩ dX11_cable_59 kk
theorem e_X11_cable : yX11_cable.cls = RX11 ∧ yX11_cable.cls ≠ "java/lang/invoke/MethodHandle" ∧ yX11_cable.cls ≠ "java/lang/invoke/VarHandle" ∧ (parseMethodDescriptor yX11_cable.desc).map (fun d => d.parameters.length) = some 2 := by decide +kernel
set_option maxRecDepth 100000 in
set_option maxHeartbeats 4000000 in
theorem c_X11_cable (x1 : Int32) (x2 : Int32) (h : PH) (r : Int32) (hf : f_X11_cable x1 x2 h = some r) : Con yX11_cable wsX11_cable (rm_d 3) l0_B [.ref 0, .int x1, .int x2] h (some (.int r)) h := by
  have hn11 : ∀ w ∈ wsX110, w ∈ wsX11_cable := (fun _ hw => (List.mem_cons_of_mem _ (List.mem_append_left _ (List.mem_append_left _ (List.mem_append_left _ (List.mem_append_left _ (List.mem_append_left _ (List.mem_append_right _ hw))))))))
  refine con_i (ty := .int) (cc := cX11_cable) (nL := 4) (by decide) rfl (Nat.le_of_ble_eq_true rfl) ?_
  intro C hC hret
  change Go l0_B C 0 0 0 [(0, .ref 0), (1, .int x1), (2, .int x2)] [] h
  unfold f_X11_cable at hf
  refine go_aload_n hC dX11_cable_0 rfl 0 rfl ?_
  refine go_iload_n hC dX11_cable_1 rfl 1 rfl ?_
  obtain ⟨r_1, hc, hf⟩ := bd_e1 hf
  refine go_callV hC (c_X11_wayOf x1 h r_1 hc) gX11_cable_X11_wayOf rfl ⟨rfl, rfl⟩ 1 e_X11_wayOf ⟨Nat.le_of_ble_eq_true rfl, Nat.le_of_ble_eq_true rfl⟩ (b_0 _) rfl rfl (st := []) (st1 := (rv_o r_1 :: [])) rfl rfl (Nat.le_of_ble_eq_true rfl) ⟨Nat.zero_le _, Nat.zero_le _⟩ dX11_cable_2 ?_
  rcases mo_e hf with ⟨q_2, hf⟩ | ⟨o_3, q_2, hf⟩
  · refine go_topn q_2 ?_
    refine go_astore_nN hC dX11_cable_5 rfl (Nat.le_of_ble_eq_true rfl) rfl ?_
    refine go_aload_nN hC dX11_cable_6 rfl 0 rfl ?_
    refine go_ifnonnullN hC dX11_cable_7 ?_
    refine go_iconst hC dX11_cable_10 k1_m1 ?_
    obtain rfl := so_1 hf
    exact hret _ _ rfl dX11_cable_11
  · refine go_tops q_2 ?_
    obtain ⟨z_4, hz_4, hf⟩ := bd_e1 hf
    obtain ⟨hcz_4, hoz_4, haz_4⟩ := ch_e hz_4
    refine go_astore_n hC dX11_cable_5 rfl (Nat.le_of_ble_eq_true rfl) rfl ?_
    refine go_aload_n hC dX11_cable_6 rfl 0 rfl ?_
    refine go_ifnonnull hC dX11_cable_7 (tgt := 12) (by decide) ?_
    refine go_iload_n hC dX11_cable_12 rfl 3 rfl ?_
    refine go_if_lt hC dX11_cable_13 (tgt := 21) (by decide) (fun c_12 => ?_) (fun c_12 => ?_)
    · replace hf := if_t c_12 hf
      refine go_bipush hC dX11_cable_21 k8_m2 ?_
      obtain rfl := so_1 hf
      exact hret _ _ rfl dX11_cable_23
    · replace hf := if_f c_12 hf
      refine go_iload_n hC dX11_cable_16 rfl 3 rfl ?_
      refine go_iconst hC dX11_cable_17 k1_1 ?_
      refine go_icmp_le hC dX11_cable_18 (tgt := 24) (by decide) (fun c_11 => ?_) (fun c_11 => ?_)
      · replace hf := if_t c_11 hf
        refine go_aload_n hC dX11_cable_24 rfl 0 rfl ?_
        refine go_aload_n hC dX11_cable_25 rfl 1 rfl ?_
        refine go_getr hC (j := 2) (idx := 28) (nm := "plot") (ds := "LLampWays$House;") (b_0 _) rfl rfl hn11 (Nat.le_of_ble_eq_true rfl) rfl rfl (List.mem_cons_of_mem _ (List.mem_append_left _ (List.mem_append_left _ (List.mem_append_left _ (List.mem_append_left _ (List.mem_append_left _ (List.mem_append_left _ (List.mem_append_left _ (List.mem_of_getElem? (i := 0) rfl))))))))) (Or.inl rfl) dX11_cable_26 ?_
        refine go_aload_n hC dX11_cable_29 rfl 1 rfl ?_
        refine go_getr hC (j := 3) (idx := 35) (nm := "points") (ds := "LLampWays$Points;") (b_0 _) rfl rfl hn11 (Nat.le_of_ble_eq_true rfl) rfl rfl (List.mem_cons_of_mem _ (List.mem_append_left _ (List.mem_append_left _ (List.mem_append_left _ (List.mem_append_left _ (List.mem_append_left _ (List.mem_append_left _ (List.mem_append_left _ (List.mem_of_getElem? (i := 1) rfl))))))))) (Or.inl rfl) dX11_cable_30 ?_
        obtain ⟨r_5, hc, hf⟩ := bd_e1 hf
        refine vc_X11_cable_33 hC z_4.1 z_4.2.1 z_4.2.2 o_3 hcz_4 h r_5 hoz_4 haz_4 hc (st := []) (Nat.le_of_ble_eq_true rfl) ?_
        refine go_if_ne hC dX11_cable_36 (tgt := 42) (by decide) (fun c_10 => ?_) (fun c_10 => ?_)
        · replace hf := if_f c_10 hf
          refine go_iload_n hC dX11_cable_42 rfl 3 rfl ?_
          refine go_if_ne hC dX11_cable_43 (tgt := 66) (by decide) (fun c_9 => ?_) (fun c_9 => ?_)
          · replace hf := if_f c_9 hf
            refine go_aload_n hC dX11_cable_66 rfl 0 rfl ?_
            refine go_aload_n hC dX11_cable_67 rfl 1 rfl ?_
            refine go_getr hC (j := 2) (idx := 28) (nm := "plot") (ds := "LLampWays$House;") (b_0 _) rfl rfl hn11 (Nat.le_of_ble_eq_true rfl) rfl rfl (List.mem_cons_of_mem _ (List.mem_append_left _ (List.mem_append_left _ (List.mem_append_left _ (List.mem_append_left _ (List.mem_append_left _ (List.mem_append_left _ (List.mem_append_left _ (List.mem_of_getElem? (i := 0) rfl))))))))) (Or.inl rfl) dX11_cable_68 ?_
            refine go_aload_n hC dX11_cable_71 rfl 1 rfl ?_
            refine go_getr hC (j := 3) (idx := 35) (nm := "points") (ds := "LLampWays$Points;") (b_0 _) rfl rfl hn11 (Nat.le_of_ble_eq_true rfl) rfl rfl (List.mem_cons_of_mem _ (List.mem_append_left _ (List.mem_append_left _ (List.mem_append_left _ (List.mem_append_left _ (List.mem_append_left _ (List.mem_append_left _ (List.mem_append_left _ (List.mem_of_getElem? (i := 1) rfl))))))))) (Or.inl rfl) dX11_cable_72 ?_
            obtain ⟨r_6, hc, hf⟩ := bd_e1 hf
            refine vc_X11_cable_75 hC z_4.1 z_4.2.1 z_4.2.2 o_3 hcz_4 h r_6 hoz_4 haz_4 hc (st := []) (Nat.le_of_ble_eq_true rfl) ?_
            obtain rfl := so_1 hf
            exact hret _ _ rfl dX11_cable_78
          · replace hf := if_t c_9 hf
            refine go_aload_n hC dX11_cable_46 rfl 0 rfl ?_
            obtain ⟨r_7, hc, hf⟩ := bd_e1 hf
            refine vc_X11_cable_47 hC z_4.1 z_4.2.1 z_4.2.2 o_3 hcz_4 h r_7 hoz_4 haz_4 hc (st := []) (Nat.le_of_ble_eq_true rfl) ?_
            refine go_aload_n hC dX11_cable_50 rfl 0 rfl ?_
            refine go_aload_n hC dX11_cable_51 rfl 1 rfl ?_
            refine go_getr hC (j := 2) (idx := 28) (nm := "plot") (ds := "LLampWays$House;") (b_0 _) rfl rfl hn11 (Nat.le_of_ble_eq_true rfl) rfl rfl (List.mem_cons_of_mem _ (List.mem_append_left _ (List.mem_append_left _ (List.mem_append_left _ (List.mem_append_left _ (List.mem_append_left _ (List.mem_append_left _ (List.mem_append_left _ (List.mem_of_getElem? (i := 0) rfl))))))))) (Or.inl rfl) dX11_cable_52 ?_
            refine go_aload_n hC dX11_cable_55 rfl 1 rfl ?_
            refine go_getr hC (j := 3) (idx := 35) (nm := "points") (ds := "LLampWays$Points;") (b_0 _) rfl rfl hn11 (Nat.le_of_ble_eq_true rfl) rfl rfl (List.mem_cons_of_mem _ (List.mem_append_left _ (List.mem_append_left _ (List.mem_append_left _ (List.mem_append_left _ (List.mem_append_left _ (List.mem_append_left _ (List.mem_append_left _ (List.mem_of_getElem? (i := 1) rfl))))))))) (Or.inl rfl) dX11_cable_56 ?_
            obtain ⟨r_8, hc, hf⟩ := bd_e1 hf
            refine vc_X11_cable_59 hC z_4.1 z_4.2.1 z_4.2.2 o_3 hcz_4 h r_8 hoz_4 haz_4 hc (st := [.int r_7]) (Nat.le_of_ble_eq_true rfl) ?_
            refine go_imul hC dX11_cable_62 ?_
            refine go_goto hC dX11_cable_63 (tgt := 78) (by decide) ?_
            obtain rfl := so_1 hf
            exact hret _ _ rfl dX11_cable_78
        · replace hf := if_t c_10 hf
          refine go_bipush hC dX11_cable_39 k8_m3 ?_
          obtain rfl := so_1 hf
          exact hret _ _ rfl dX11_cable_41
      · replace hf := if_f c_11 hf
        refine go_bipush hC dX11_cable_21 k8_m2 ?_
        obtain rfl := so_1 hf
        exact hret _ _ rfl dX11_cable_23
def f_X11_isHalfOfShare (x0 : Int32) (h : PH) : Option (Int32) :=
  if x0 = 0 then (
  some 1)
  else (
  if x0 = 1 then (
  some 1)
  else (
  some 0))
theorem e_X11_isHalfOfShare : yX11_isHalfOfShare.cls ≠ "java/lang/invoke/MethodHandle" ∧ yX11_isHalfOfShare.cls ≠ "java/lang/invoke/VarHandle" ∧ (parseMethodDescriptor yX11_isHalfOfShare.desc).map (fun d => d.parameters.length) = some 1 := by decide +kernel
set_option maxRecDepth 100000 in
set_option maxHeartbeats 4000000 in
theorem c_X11_isHalfOfShare (x0 : Int32) (h : PH) (r : Int32) (hf : f_X11_isHalfOfShare x0 h = some r) : Con yX11_isHalfOfShare wsX11_isHalfOfShare (rm_d 0) l0_B [.int x0] h (some (.int r)) h := by

  refine con_i (ty := .boolean) (cc := cX11_isHalfOfShare) (nL := 1) (by decide) rfl (Nat.le_of_ble_eq_true rfl) ?_
  intro C hC hret
  change Go l0_B C 0 0 0 [(0, .int x0)] [] h
  unfold f_X11_isHalfOfShare at hf
  refine go_iload_n hC dX11_isHalfOfShare_0 rfl 0 rfl ?_
  refine go_if_eq hC dX11_isHalfOfShare_1 (tgt := 9) (by decide) (fun c_2 => ?_) (fun c_2 => ?_)
  · replace hf := if_t c_2 hf
    refine go_iconst hC dX11_isHalfOfShare_9 k1_1 ?_
    refine go_goto hC dX11_isHalfOfShare_10 (tgt := 14) (by decide) ?_
    obtain rfl := so_1 hf
    exact hret _ _ (zo_n (Or.inr rfl)) dX11_isHalfOfShare_14
  · replace hf := if_f c_2 hf
    refine go_iload_n hC dX11_isHalfOfShare_4 rfl 0 rfl ?_
    refine go_iconst hC dX11_isHalfOfShare_5 k1_1 ?_
    refine go_icmp_ne hC dX11_isHalfOfShare_6 (tgt := 13) (by decide) (fun c_1 => ?_) (fun c_1 => ?_)
    · replace hf := if_f c_1 hf
      refine go_iconst hC dX11_isHalfOfShare_13 k1_0 ?_
      obtain rfl := so_1 hf
      exact hret _ _ (zo_n (Or.inl rfl)) dX11_isHalfOfShare_14
    · replace hf := if_t c_1 hf
      refine go_iconst hC dX11_isHalfOfShare_9 k1_1 ?_
      refine go_goto hC dX11_isHalfOfShare_10 (tgt := 14) (by decide) ?_
      obtain rfl := so_1 hf
      exact hret _ _ (zo_n (Or.inr rfl)) dX11_isHalfOfShare_14
def lb_X11_commonDivisor_9 (h : PH) (x4 : Int64) (x6 : Int64) (x8 : Int32) : Option ((Int64 × Int64 × Int32) ⊕ (Int64 × Int64 × Int32)) :=
  if 100 ≤ x8 then (
  some (.inr (x4, x6, x8)))
  else (
  if (lg_cmp x6 0) = 0 then (
  some (.inr (x4, x6, x8)))
  else (
  gz_l x6 (
  lt_b (x4 - x4 / x6 * x6) fun x9_7 =>
  lt_b (x8 + 1) fun x8_8 =>
  some (.inl (x6, x9_7, x8_8)))))
def f_X11_commonDivisor (x0 : Int64) (x2 : Int64) (h : PH) : Option (Int64) :=
  bd_1 (lp_f (fun s => lb_X11_commonDivisor_9 h s.1 s.2.1 s.2.2) fu_l (x0, x2, 0)) fun s_11 =>
  some s_11.1
set_option maxRecDepth 100000 in
set_option maxHeartbeats 4000000 in
theorem lw_X11_commonDivisor_9 {C : GC} (hC : Cx C cX11_commonDivisor 11 wsX11_commonDivisor RX11 (some .long) (rm_d 0)) (h : PH) : ∀ (n9 : Nat) (x4 : Int64) (x6 : Int64) (x8 : Int32) (y : Int64 × Int64 × Int32), lp_f (fun s => lb_X11_commonDivisor_9 h s.1 s.2.1 s.2.2) n9 (x4, x6, x8) = some y → ∀ (hk : Go l0_B C 0 0 44 [(4, .long y.1)] [] h), Go l0_B C 0 0 9 [(4, .long x4), (6, .long x6), (8, .int x8)] [] h := by

  intro n9
  induction n9 with
  | zero =>
    intro x4 x6 x8 y hlp
    cases hlp
  | succ n9 ih =>
    intro x4 x6 x8 y hlp hk
    obtain ⟨k9, z, hk9, hf, hy⟩ := lp_e hlp
    cases hk9
    replace hf : lb_X11_commonDivisor_9 h x4 x6 x8 = some z := hf
    unfold lb_X11_commonDivisor_9 at hf
    refine go_iload hC dX11_commonDivisor_9 2 rfl ?_
    refine go_bipush hC dX11_commonDivisor_11 k8_100 ?_
    refine go_icmp_ge hC dX11_commonDivisor_13 (tgt := 44) (by decide) (fun c_10 => ?_) (fun c_10 => ?_)
    · replace hf := if_t c_10 hf
      obtain rfl := so_1 hf
      obtain rfl := lp_x hy
      refine go_sub [0] rfl ?_
      exact hk
    · replace hf := if_f c_10 hf
      refine go_lload hC dX11_commonDivisor_16 1 rfl ?_
      refine go_lconst hC dX11_commonDivisor_18 (v := 0) rfl ?_
      refine go_lcmp hC dX11_commonDivisor_19 ?_
      refine go_if_eq hC dX11_commonDivisor_20 (tgt := 44) (by decide) (fun c_9 => ?_) (fun c_9 => ?_)
      · replace hf := if_t c_9 hf
        obtain rfl := so_1 hf
        obtain rfl := lp_x hy
        refine go_sub [0] rfl ?_
        exact hk
      · replace hf := if_f c_9 hf
        refine go_lload hC dX11_commonDivisor_23 0 rfl ?_
        refine go_lload hC dX11_commonDivisor_25 1 rfl ?_
        obtain ⟨g_6, hf⟩ := gz_e2 hf
        refine go_lrem hC dX11_commonDivisor_27 g_6 ?_
        obtain ⟨x9_7, ex9_7, hf⟩ := lt_e hf
        refine go_topl ex9_7 ?_
        refine go_lstore hC dX11_commonDivisor_28 (Nat.le_of_ble_eq_true rfl) rfl ?_
        refine go_lload hC dX11_commonDivisor_30 2 rfl ?_
        refine go_lstore hC dX11_commonDivisor_32 (Nat.le_of_ble_eq_true rfl) rfl ?_
        refine go_lload hC dX11_commonDivisor_34 1 rfl ?_
        refine go_lstore hC dX11_commonDivisor_36 (Nat.le_of_ble_eq_true rfl) rfl ?_
        obtain ⟨x8_8, ex8_8, hf⟩ := lt_e hf
        refine go_iinc hC dX11_commonDivisor_38 3 rfl k1_1 ex8_8 (Nat.le_of_ble_eq_true rfl) rfl ?_
        refine go_goto hC dX11_commonDivisor_41 (tgt := 9) (by decide) ?_
        obtain rfl := so_1 hf
        refine go_sub [2, 1, 0] rfl ?_
        exact ih x6 x9_7 x8_8 _ (lp_c hy) hk
theorem e_X11_commonDivisor : yX11_commonDivisor.cls ≠ "java/lang/invoke/MethodHandle" ∧ yX11_commonDivisor.cls ≠ "java/lang/invoke/VarHandle" ∧ (parseMethodDescriptor yX11_commonDivisor.desc).map (fun d => d.parameters.length) = some 2 := by decide +kernel
set_option maxRecDepth 100000 in
set_option maxHeartbeats 4000000 in
theorem c_X11_commonDivisor (x0 : Int64) (x2 : Int64) (h : PH) (r : Int64) (hf : f_X11_commonDivisor x0 x2 h = some r) : Con yX11_commonDivisor wsX11_commonDivisor (rm_d 0) l0_B [.long x0, .long x2] h (some (.long r)) h := by

  refine con_l (cc := cX11_commonDivisor) (nL := 11) (by decide) rfl (Nat.le_of_ble_eq_true rfl) ?_
  intro C hC hret
  change Go l0_B C 0 0 0 [(0, .long x0), (2, .long x2)] [] h
  unfold f_X11_commonDivisor at hf
  refine go_lload_n hC dX11_commonDivisor_0 rfl 0 rfl ?_
  refine go_lstore hC dX11_commonDivisor_1 (Nat.le_of_ble_eq_true rfl) rfl ?_
  refine go_lload_n hC dX11_commonDivisor_3 rfl 2 rfl ?_
  refine go_lstore hC dX11_commonDivisor_4 (Nat.le_of_ble_eq_true rfl) rfl ?_
  refine go_iconst hC dX11_commonDivisor_6 k1_0 ?_
  refine go_istore hC dX11_commonDivisor_7 (Nat.le_of_ble_eq_true rfl) rfl ?_
  obtain ⟨s_11, hl, hf⟩ := bd_e1 hf
  refine go_sub [2, 1, 0] rfl ?_
  refine lw_X11_commonDivisor_9 hC h _ x0 x2 0 s_11 hl ?_
  refine go_lload hC dX11_commonDivisor_44 0 rfl ?_
  obtain rfl := so_1 hf
  exact hret _ _ dX11_commonDivisor_46
def f_X11_inLeastTerms (x0 : Int64) (x2 : Int64) (x4 : Int32) (h : PH) : Option (Int64) :=
  bd_1 (f_X11_commonDivisor (if 0 < x0 then x0 else -x0) x2 h) fun r_1 =>
  if (lg_cmp r_1 0) = 0 then (
  some (-9223372036854775808))
  else (
  if x4 = 0 then (
  gz_l r_1 (
  some (x0 / r_1)))
  else (
  gz_l r_1 (
  some (x2 / r_1))))
theorem e_X11_inLeastTerms : yX11_inLeastTerms.cls ≠ "java/lang/invoke/MethodHandle" ∧ yX11_inLeastTerms.cls ≠ "java/lang/invoke/VarHandle" ∧ (parseMethodDescriptor yX11_inLeastTerms.desc).map (fun d => d.parameters.length) = some 3 := by decide +kernel
set_option maxRecDepth 100000 in
set_option maxHeartbeats 4000000 in
theorem c_X11_inLeastTerms (x0 : Int64) (x2 : Int64) (x4 : Int32) (h : PH) (r : Int64) (hf : f_X11_inLeastTerms x0 x2 x4 h = some r) : Con yX11_inLeastTerms wsX11_inLeastTerms (rm_d 1) l0_B [.long x0, .long x2, .int x4] h (some (.long r)) h := by

  refine con_l (cc := cX11_inLeastTerms) (nL := 7) (by decide) rfl (Nat.le_of_ble_eq_true rfl) ?_
  intro C hC hret
  change Go l0_B C 0 0 0 [(0, .long x0), (2, .long x2), (4, .int x4)] [] h
  unfold f_X11_inLeastTerms at hf
  refine go_lload_n hC dX11_inLeastTerms_0 rfl 0 rfl ?_
  refine go_absl hC (List.mem_cons_of_mem _ (List.mem_of_getElem? (i := 0) rfl)) (List.mem_cons_of_mem _ (List.mem_of_getElem? (i := 1) rfl)) (List.mem_cons_of_mem _ (List.mem_of_getElem? (i := 2) rfl)) (List.mem_cons_of_mem _ (List.mem_of_getElem? (i := 3) rfl)) ⟨Nat.le_of_ble_eq_true rfl, Nat.le_of_ble_eq_true rfl⟩ ⟨Nat.zero_le _, Nat.zero_le _⟩ dX11_inLeastTerms_1 ?_
  refine go_lload_n hC dX11_inLeastTerms_4 rfl 1 rfl ?_
  obtain ⟨r_1, hc, hf⟩ := bd_e1 hf
  refine go_callS hC (c_X11_commonDivisor (if 0 < x0 then x0 else -x0) x2 h r_1 hc) gX11_inLeastTerms_X11_commonDivisor rfl ⟨rfl, rfl⟩ 2 e_X11_commonDivisor ⟨Nat.le_of_ble_eq_true rfl, Nat.le_of_ble_eq_true rfl⟩ rfl (st := []) (st1 := [.long r_1]) rfl rfl (Nat.le_of_ble_eq_true rfl) ⟨Nat.zero_le _, Nat.zero_le _⟩ dX11_inLeastTerms_5 ?_
  refine go_lstore hC dX11_inLeastTerms_8 (Nat.le_of_ble_eq_true rfl) rfl ?_
  refine go_lload hC dX11_inLeastTerms_10 0 rfl ?_
  refine go_lconst hC dX11_inLeastTerms_12 (v := 0) rfl ?_
  refine go_lcmp hC dX11_inLeastTerms_13 ?_
  refine go_if_ne hC dX11_inLeastTerms_14 (tgt := 21) (by decide) (fun c_5 => ?_) (fun c_5 => ?_)
  · replace hf := if_f c_5 hf
    refine go_iload hC dX11_inLeastTerms_21 3 rfl ?_
    refine go_if_ne hC dX11_inLeastTerms_23 (tgt := 33) (by decide) (fun c_4 => ?_) (fun c_4 => ?_)
    · replace hf := if_f c_4 hf
      refine go_lload_n hC dX11_inLeastTerms_33 rfl 2 rfl ?_
      refine go_lload hC dX11_inLeastTerms_34 0 rfl ?_
      obtain ⟨g_2, hf⟩ := gz_e2 hf
      refine go_ldiv hC dX11_inLeastTerms_36 g_2 ?_
      obtain rfl := so_1 hf
      exact hret _ _ dX11_inLeastTerms_37
    · replace hf := if_t c_4 hf
      refine go_lload_n hC dX11_inLeastTerms_26 rfl 1 rfl ?_
      refine go_lload hC dX11_inLeastTerms_27 0 rfl ?_
      obtain ⟨g_3, hf⟩ := gz_e2 hf
      refine go_ldiv hC dX11_inLeastTerms_29 g_3 ?_
      refine go_goto hC dX11_inLeastTerms_30 (tgt := 37) (by decide) ?_
      obtain rfl := so_1 hf
      exact hret _ _ dX11_inLeastTerms_37
  · replace hf := if_t c_5 hf
    refine go_ldc2 hC (v := (-9223372036854775808)) (List.mem_cons_of_mem _ (List.mem_of_getElem? (i := 4) rfl)) dX11_inLeastTerms_17 ?_
    obtain rfl := so_1 hf
    exact hret _ _ dX11_inLeastTerms_20
def f_X11_carries (x1 : Int32) (x2 : Int32) (x3 : Int32) (h : PH) : Option (Int64) :=
  bd_1 (f_X11_wayOf x1 h) fun r_1 =>
  mo_b r_1 (
  some (-9223372036854775808)) fun o_3 =>
  bd_1 (ch_at h o_3) fun z_4 =>
  if x2 < 0 then (
  some (-9223372036854775808))
  else (
  bd_1 (vd_pieces z_4.1 z_4.2.1 z_4.2.2 o_3 h) fun r_5 =>
  if r_5 ≤ x2 then (
  some (-9223372036854775808))
  else (
  bd_1 (f_X11_isHalfOfShare x3 h) fun r_6 =>
  if r_6 = 0 then (
  some (-9223372036854775808))
  else (
  bd_1 (f_X1_canBeLaid z_4.1 z_4.2.1 z_4.2.2 o_3 h) fun r_7 =>
  if r_7 = 0 then (
  some (-9223372036854775808))
  else (
  bd_1 (f_X1_carriedUpper z_4.1 z_4.2.1 z_4.2.2 o_3 x2 h) fun r_8 =>
  bd_1 (vd_carriedLower z_4.1 z_4.2.1 z_4.2.2 o_3 h) fun r_9 =>
  bd_1 (f_X11_inLeastTerms r_8 r_9 x3 h) fun r_10 =>
  some r_10))))
set_option maxRecDepth 100000 in
theorem vc_X11_carries_19 {C : GC} (hC : Cx C cX11_carries 5 wsX11_carries RX11 (some .long) (rm_d 5)) (ci a n o : Nat) (hci : ci = 1 ∨ ci = 7 ∨ ci = 9)  (h : PH) (r : Int32) (ho : (l0_B ++ h.2.2.2)[o]? = some (.inr (ci, [(0, 0), (0, 0), (2, a)]))) (ha : (l0_B ++ h.2.2.2)[a]? = some (.inl (0, n))) (hc : vd_pieces ci a n o h = some r) {L : List (Nat × Value)} {st : List Value} (hsum : (st.map fun v => v.category).sum ≤ 8) (kk : Go l0_B C 0 0 22 L (.int r :: st) h) : Go l0_B C 0 0 19 L (.ref o :: st) h := by
  rcases hci with rfl | rfl | rfl
  · exact go_callV hC (c_X1_pieces_X1 a n o h r ho ha hc) gX11_carries_X1_pieces rfl ⟨rfl, rfl⟩ 0 e_X1_pieces ⟨Nat.le_of_ble_eq_true rfl, Nat.le_of_ble_eq_true rfl⟩ ho rfl rfl (st := st) (st1 := (.int r :: st)) rfl rfl hsum ⟨Nat.zero_le _, Nat.zero_le _⟩ dX11_carries_19 kk
  · exact go_callO hC (c_X7_pieces_X7 a n o h r ho ha hc) gX11_carries_X7_pieces_u222X7 rfl ⟨rfl, rfl⟩ (List.mem_cons_of_mem _ (List.mem_append_left _ (List.mem_append_left _ (List.mem_append_left _ (List.mem_append_left _ (List.mem_append_left _ (List.mem_append_left _ (List.mem_append_left _ (List.mem_of_getElem? (i := 14) rfl))))))))) 0 (by decide +kernel) ⟨Nat.le_of_ble_eq_true rfl, Nat.le_of_ble_eq_true rfl⟩ ho rfl rfl (st := st) (st1 := (.int r :: st)) rfl rfl hsum ⟨Nat.zero_le _, Nat.zero_le _⟩ dX11_carries_19 kk
  · exact go_callO hC (c_X7_pieces_X9 a n o h r ho ha hc) gX11_carries_X7_pieces_u222X9 rfl ⟨rfl, rfl⟩ (List.mem_cons_of_mem _ (List.mem_append_left _ (List.mem_append_left _ (List.mem_append_left _ (List.mem_append_left _ (List.mem_append_left _ (List.mem_append_left _ (List.mem_append_left _ (List.mem_of_getElem? (i := 14) rfl))))))))) 0 (by decide +kernel) ⟨Nat.le_of_ble_eq_true rfl, Nat.le_of_ble_eq_true rfl⟩ ho rfl rfl (st := st) (st1 := (.int r :: st)) rfl rfl hsum ⟨Nat.zero_le _, Nat.zero_le _⟩ dX11_carries_19 kk
set_option maxRecDepth 100000 in
theorem vc_X11_carries_46 {C : GC} (hC : Cx C cX11_carries 5 wsX11_carries RX11 (some .long) (rm_d 5)) (ci a n o : Nat) (hci : ci = 1 ∨ ci = 7 ∨ ci = 9)  (h : PH) (r : Int32) (ho : (l0_B ++ h.2.2.2)[o]? = some (.inr (ci, [(0, 0), (0, 0), (2, a)]))) (ha : (l0_B ++ h.2.2.2)[a]? = some (.inl (0, n))) (hc : f_X1_canBeLaid ci a n o h = some r) {L : List (Nat × Value)} {st : List Value} (hsum : (st.map fun v => v.category).sum ≤ 8) (kk : Go l0_B C 0 0 49 L (.int r :: st) h) : Go l0_B C 0 0 46 L (.ref 17 :: .ref 10 :: .ref o :: st) h := by
  rcases hci with rfl | rfl | rfl
  · exact go_callV hC (c_X1_canBeLaid_X1 a n o h r ho ha hc) gX11_carries_X1_canBeLaid rfl ⟨rfl, rfl⟩ 2 e_X1_canBeLaid ⟨Nat.le_of_ble_eq_true rfl, Nat.le_of_ble_eq_true rfl⟩ ho rfl rfl (st := st) (st1 := (.int r :: st)) rfl rfl hsum ⟨Nat.zero_le _, Nat.zero_le _⟩ dX11_carries_46 kk
  · exact go_callU hC (c_X1_canBeLaid_X7 a n o h r ho ha hc) gX11_carries_X1_canBeLaid_u225X7 rfl ⟨rfl, rfl⟩ rfl 2 (by decide +kernel) ⟨Nat.le_of_ble_eq_true rfl, Nat.le_of_ble_eq_true rfl⟩ ho rfl rfl (st := st) (st1 := (.int r :: st)) rfl rfl hsum ⟨Nat.zero_le _, Nat.zero_le _⟩ dX11_carries_46 kk
  · exact go_callU hC (c_X1_canBeLaid_X9 a n o h r ho ha hc) gX11_carries_X1_canBeLaid_u225X9 rfl ⟨rfl, rfl⟩ rfl 2 (by decide +kernel) ⟨Nat.le_of_ble_eq_true rfl, Nat.le_of_ble_eq_true rfl⟩ ho rfl rfl (st := st) (st1 := (.int r :: st)) rfl rfl hsum ⟨Nat.zero_le _, Nat.zero_le _⟩ dX11_carries_46 kk
set_option maxRecDepth 100000 in
theorem vc_X11_carries_67 {C : GC} (hC : Cx C cX11_carries 5 wsX11_carries RX11 (some .long) (rm_d 5)) (ci a n o : Nat) (hci : ci = 1 ∨ ci = 7 ∨ ci = 9) (y0 : Int32) (h : PH) (r : Int64) (ho : (l0_B ++ h.2.2.2)[o]? = some (.inr (ci, [(0, 0), (0, 0), (2, a)]))) (ha : (l0_B ++ h.2.2.2)[a]? = some (.inl (0, n))) (hc : f_X1_carriedUpper ci a n o y0 h = some r) {L : List (Nat × Value)} {st : List Value} (hsum : (st.map fun v => v.category).sum ≤ 8) (kk : Go l0_B C 0 0 70 L (.long r :: st) h) : Go l0_B C 0 0 67 L (.ref 17 :: .ref 10 :: .int y0 :: .ref o :: st) h := by
  rcases hci with rfl | rfl | rfl
  · exact go_callV hC (c_X1_carriedUpper_X1 a n o y0 h r ho ha hc) gX11_carries_X1_carriedUpper rfl ⟨rfl, rfl⟩ 3 e_X1_carriedUpper ⟨Nat.le_of_ble_eq_true rfl, Nat.le_of_ble_eq_true rfl⟩ ho rfl rfl (st := st) (st1 := (.long r :: st)) rfl rfl hsum ⟨Nat.zero_le _, Nat.zero_le _⟩ dX11_carries_67 kk
  · exact go_callU hC (c_X1_carriedUpper_X7 a n o y0 h r ho ha hc) gX11_carries_X1_carriedUpper_u244X7 rfl ⟨rfl, rfl⟩ rfl 3 (by decide +kernel) ⟨Nat.le_of_ble_eq_true rfl, Nat.le_of_ble_eq_true rfl⟩ ho rfl rfl (st := st) (st1 := (.long r :: st)) rfl rfl hsum ⟨Nat.zero_le _, Nat.zero_le _⟩ dX11_carries_67 kk
  · exact go_callU hC (c_X1_carriedUpper_X9 a n o y0 h r ho ha hc) gX11_carries_X1_carriedUpper_u244X9 rfl ⟨rfl, rfl⟩ rfl 3 (by decide +kernel) ⟨Nat.le_of_ble_eq_true rfl, Nat.le_of_ble_eq_true rfl⟩ ho rfl rfl (st := st) (st1 := (.long r :: st)) rfl rfl hsum ⟨Nat.zero_le _, Nat.zero_le _⟩ dX11_carries_67 kk
set_option maxRecDepth 100000 in
theorem vc_X11_carries_80 {C : GC} (hC : Cx C cX11_carries 5 wsX11_carries RX11 (some .long) (rm_d 5)) (ci a n o : Nat) (hci : ci = 1 ∨ ci = 7 ∨ ci = 9)  (h : PH) (r : Int64) (ho : (l0_B ++ h.2.2.2)[o]? = some (.inr (ci, [(0, 0), (0, 0), (2, a)]))) (ha : (l0_B ++ h.2.2.2)[a]? = some (.inl (0, n))) (hc : vd_carriedLower ci a n o h = some r) {L : List (Nat × Value)} {st : List Value} (hsum : (st.map fun v => v.category).sum ≤ 8) (kk : Go l0_B C 0 0 83 L (.long r :: st) h) : Go l0_B C 0 0 80 L (.ref 17 :: .ref 10 :: .ref o :: st) h := by
  rcases hci with rfl | rfl | rfl
  · exact go_callV hC (c_X1_carriedLower_X1 a n o h r ho ha hc) gX11_carries_X1_carriedLower rfl ⟨rfl, rfl⟩ 2 e_X1_carriedLower ⟨Nat.le_of_ble_eq_true rfl, Nat.le_of_ble_eq_true rfl⟩ ho rfl rfl (st := st) (st1 := (.long r :: st)) rfl rfl hsum ⟨Nat.zero_le _, Nat.zero_le _⟩ dX11_carries_80 kk
  · exact go_callO hC (c_X7_carriedLower_X7 a n o h r ho ha hc) gX11_carries_X7_carriedLower_u248X7 rfl ⟨rfl, rfl⟩ (List.mem_cons_of_mem _ (List.mem_append_left _ (List.mem_append_left _ (List.mem_append_left _ (List.mem_append_left _ (List.mem_append_left _ (List.mem_append_left _ (List.mem_append_right _ (List.mem_append_right _ (List.mem_append_right _ (List.mem_append_right _ (List.mem_append_left _ (List.mem_of_getElem? (i := 11) rfl))))))))))))) 2 (by decide +kernel) ⟨Nat.le_of_ble_eq_true rfl, Nat.le_of_ble_eq_true rfl⟩ ho rfl rfl (st := st) (st1 := (.long r :: st)) rfl rfl hsum ⟨Nat.zero_le _, Nat.zero_le _⟩ dX11_carries_80 kk
  · exact go_callO hC (c_X7_carriedLower_X9 a n o h r ho ha hc) gX11_carries_X7_carriedLower_u248X9 rfl ⟨rfl, rfl⟩ (List.mem_cons_of_mem _ (List.mem_append_left _ (List.mem_append_left _ (List.mem_append_left _ (List.mem_append_left _ (List.mem_append_left _ (List.mem_append_left _ (List.mem_append_right _ (List.mem_append_right _ (List.mem_append_right _ (List.mem_append_right _ (List.mem_append_left _ (List.mem_of_getElem? (i := 11) rfl))))))))))))) 2 (by decide +kernel) ⟨Nat.le_of_ble_eq_true rfl, Nat.le_of_ble_eq_true rfl⟩ ho rfl rfl (st := st) (st1 := (.long r :: st)) rfl rfl hsum ⟨Nat.zero_le _, Nat.zero_le _⟩ dX11_carries_80 kk
theorem e_X11_carries : yX11_carries.cls = RX11 ∧ yX11_carries.cls ≠ "java/lang/invoke/MethodHandle" ∧ yX11_carries.cls ≠ "java/lang/invoke/VarHandle" ∧ (parseMethodDescriptor yX11_carries.desc).map (fun d => d.parameters.length) = some 3 := by decide +kernel
set_option maxRecDepth 100000 in
set_option maxHeartbeats 4000000 in
theorem c_X11_carries (x1 : Int32) (x2 : Int32) (x3 : Int32) (h : PH) (r : Int64) (hf : f_X11_carries x1 x2 x3 h = some r) : Con yX11_carries wsX11_carries (rm_d 5) l0_B [.ref 0, .int x1, .int x2, .int x3] h (some (.long r)) h := by
  have hn11 : ∀ w ∈ wsX110, w ∈ wsX11_carries := (fun _ hw => (List.mem_cons_of_mem _ (List.mem_append_left _ (List.mem_append_left _ (List.mem_append_left _ (List.mem_append_left _ (List.mem_append_left _ (List.mem_append_right _ hw))))))))
  refine con_l (cc := cX11_carries) (nL := 5) (by decide) rfl (Nat.le_of_ble_eq_true rfl) ?_
  intro C hC hret
  change Go l0_B C 0 0 0 [(0, .ref 0), (1, .int x1), (2, .int x2), (3, .int x3)] [] h
  unfold f_X11_carries at hf
  refine go_aload_n hC dX11_carries_0 rfl 0 rfl ?_
  refine go_iload_n hC dX11_carries_1 rfl 1 rfl ?_
  obtain ⟨r_1, hc, hf⟩ := bd_e1 hf
  refine go_callV hC (c_X11_wayOf x1 h r_1 hc) gX11_carries_X11_wayOf rfl ⟨rfl, rfl⟩ 1 e_X11_wayOf ⟨Nat.le_of_ble_eq_true rfl, Nat.le_of_ble_eq_true rfl⟩ (b_0 _) rfl rfl (st := []) (st1 := (rv_o r_1 :: [])) rfl rfl (Nat.le_of_ble_eq_true rfl) ⟨Nat.zero_le _, Nat.zero_le _⟩ dX11_carries_2 ?_
  rcases mo_e hf with ⟨q_2, hf⟩ | ⟨o_3, q_2, hf⟩
  · refine go_topn q_2 ?_
    refine go_astoreN hC dX11_carries_5 (Nat.le_of_ble_eq_true rfl) rfl ?_
    refine go_aloadN hC dX11_carries_7 0 rfl ?_
    refine go_ifnullN hC dX11_carries_9 (tgt := 32) (by decide) ?_
    refine go_ldc2 hC (v := (-9223372036854775808)) (List.mem_cons_of_mem _ (List.mem_append_left _ (List.mem_append_left _ (List.mem_append_left _ (List.mem_append_left _ (List.mem_append_left _ (List.mem_append_left _ (List.mem_append_left _ (List.mem_of_getElem? (i := 0) rfl))))))))) dX11_carries_32 ?_
    obtain rfl := so_1 hf
    exact hret _ _ dX11_carries_35
  · refine go_tops q_2 ?_
    obtain ⟨z_4, hz_4, hf⟩ := bd_e1 hf
    obtain ⟨hcz_4, hoz_4, haz_4⟩ := ch_e hz_4
    refine go_astore hC dX11_carries_5 (Nat.le_of_ble_eq_true rfl) rfl ?_
    refine go_aload hC dX11_carries_7 0 rfl ?_
    refine go_ifnull hC dX11_carries_9 ?_
    refine go_iload_n hC dX11_carries_12 rfl 3 rfl ?_
    refine go_if_lt hC dX11_carries_13 (tgt := 32) (by decide) (fun c_14 => ?_) (fun c_14 => ?_)
    · replace hf := if_t c_14 hf
      refine go_ldc2 hC (v := (-9223372036854775808)) (List.mem_cons_of_mem _ (List.mem_append_left _ (List.mem_append_left _ (List.mem_append_left _ (List.mem_append_left _ (List.mem_append_left _ (List.mem_append_left _ (List.mem_append_left _ (List.mem_of_getElem? (i := 0) rfl))))))))) dX11_carries_32 ?_
      obtain rfl := so_1 hf
      exact hret _ _ dX11_carries_35
    · replace hf := if_f c_14 hf
      refine go_iload_n hC dX11_carries_16 rfl 3 rfl ?_
      refine go_aload hC dX11_carries_17 0 rfl ?_
      obtain ⟨r_5, hc, hf⟩ := bd_e1 hf
      refine vc_X11_carries_19 hC z_4.1 z_4.2.1 z_4.2.2 o_3 hcz_4 h r_5 hoz_4 haz_4 hc (st := [.int x2]) (Nat.le_of_ble_eq_true rfl) ?_
      refine go_icmp_ge hC dX11_carries_22 (tgt := 32) (by decide) (fun c_13 => ?_) (fun c_13 => ?_)
      · replace hf := if_t c_13 hf
        refine go_ldc2 hC (v := (-9223372036854775808)) (List.mem_cons_of_mem _ (List.mem_append_left _ (List.mem_append_left _ (List.mem_append_left _ (List.mem_append_left _ (List.mem_append_left _ (List.mem_append_left _ (List.mem_append_left _ (List.mem_of_getElem? (i := 0) rfl))))))))) dX11_carries_32 ?_
        obtain rfl := so_1 hf
        exact hret _ _ dX11_carries_35
      · replace hf := if_f c_13 hf
        refine go_iload_n hC dX11_carries_25 rfl 4 rfl ?_
        obtain ⟨r_6, hc, hf⟩ := bd_e1 hf
        refine go_callS hC (c_X11_isHalfOfShare x3 h r_6 hc) gX11_carries_X11_isHalfOfShare rfl ⟨rfl, rfl⟩ 1 e_X11_isHalfOfShare ⟨Nat.le_of_ble_eq_true rfl, Nat.le_of_ble_eq_true rfl⟩ rfl (st := []) (st1 := [.int r_6]) rfl rfl (Nat.le_of_ble_eq_true rfl) ⟨Nat.zero_le _, Nat.zero_le _⟩ dX11_carries_26 ?_
        refine go_if_ne hC dX11_carries_29 (tgt := 36) (by decide) (fun c_12 => ?_) (fun c_12 => ?_)
        · replace hf := if_f c_12 hf
          refine go_aload hC dX11_carries_36 0 rfl ?_
          refine go_aload_n hC dX11_carries_38 rfl 1 rfl ?_
          refine go_getr hC (j := 2) (idx := 28) (nm := "plot") (ds := "LLampWays$House;") (b_0 _) rfl rfl hn11 (Nat.le_of_ble_eq_true rfl) rfl rfl (List.mem_cons_of_mem _ (List.mem_append_left _ (List.mem_append_left _ (List.mem_append_left _ (List.mem_append_left _ (List.mem_append_left _ (List.mem_append_left _ (List.mem_append_left _ (List.mem_of_getElem? (i := 1) rfl))))))))) (Or.inl rfl) dX11_carries_39 ?_
          refine go_aload_n hC dX11_carries_42 rfl 1 rfl ?_
          refine go_getr hC (j := 3) (idx := 35) (nm := "points") (ds := "LLampWays$Points;") (b_0 _) rfl rfl hn11 (Nat.le_of_ble_eq_true rfl) rfl rfl (List.mem_cons_of_mem _ (List.mem_append_left _ (List.mem_append_left _ (List.mem_append_left _ (List.mem_append_left _ (List.mem_append_left _ (List.mem_append_left _ (List.mem_append_left _ (List.mem_of_getElem? (i := 2) rfl))))))))) (Or.inl rfl) dX11_carries_43 ?_
          obtain ⟨r_7, hc, hf⟩ := bd_e1 hf
          refine vc_X11_carries_46 hC z_4.1 z_4.2.1 z_4.2.2 o_3 hcz_4 h r_7 hoz_4 haz_4 hc (st := []) (Nat.le_of_ble_eq_true rfl) ?_
          refine go_if_ne hC dX11_carries_49 (tgt := 56) (by decide) (fun c_11 => ?_) (fun c_11 => ?_)
          · replace hf := if_f c_11 hf
            refine go_aload hC dX11_carries_56 0 rfl ?_
            refine go_iload_n hC dX11_carries_58 rfl 3 rfl ?_
            refine go_aload_n hC dX11_carries_59 rfl 1 rfl ?_
            refine go_getr hC (j := 2) (idx := 28) (nm := "plot") (ds := "LLampWays$House;") (b_0 _) rfl rfl hn11 (Nat.le_of_ble_eq_true rfl) rfl rfl (List.mem_cons_of_mem _ (List.mem_append_left _ (List.mem_append_left _ (List.mem_append_left _ (List.mem_append_left _ (List.mem_append_left _ (List.mem_append_left _ (List.mem_append_left _ (List.mem_of_getElem? (i := 1) rfl))))))))) (Or.inl rfl) dX11_carries_60 ?_
            refine go_aload_n hC dX11_carries_63 rfl 1 rfl ?_
            refine go_getr hC (j := 3) (idx := 35) (nm := "points") (ds := "LLampWays$Points;") (b_0 _) rfl rfl hn11 (Nat.le_of_ble_eq_true rfl) rfl rfl (List.mem_cons_of_mem _ (List.mem_append_left _ (List.mem_append_left _ (List.mem_append_left _ (List.mem_append_left _ (List.mem_append_left _ (List.mem_append_left _ (List.mem_append_left _ (List.mem_of_getElem? (i := 2) rfl))))))))) (Or.inl rfl) dX11_carries_64 ?_
            obtain ⟨r_8, hc, hf⟩ := bd_e1 hf
            refine vc_X11_carries_67 hC z_4.1 z_4.2.1 z_4.2.2 o_3 hcz_4 x2 h r_8 hoz_4 haz_4 hc (st := []) (Nat.le_of_ble_eq_true rfl) ?_
            refine go_aload hC dX11_carries_70 0 rfl ?_
            refine go_aload_n hC dX11_carries_72 rfl 1 rfl ?_
            refine go_getr hC (j := 2) (idx := 28) (nm := "plot") (ds := "LLampWays$House;") (b_0 _) rfl rfl hn11 (Nat.le_of_ble_eq_true rfl) rfl rfl (List.mem_cons_of_mem _ (List.mem_append_left _ (List.mem_append_left _ (List.mem_append_left _ (List.mem_append_left _ (List.mem_append_left _ (List.mem_append_left _ (List.mem_append_left _ (List.mem_of_getElem? (i := 1) rfl))))))))) (Or.inl rfl) dX11_carries_73 ?_
            refine go_aload_n hC dX11_carries_76 rfl 1 rfl ?_
            refine go_getr hC (j := 3) (idx := 35) (nm := "points") (ds := "LLampWays$Points;") (b_0 _) rfl rfl hn11 (Nat.le_of_ble_eq_true rfl) rfl rfl (List.mem_cons_of_mem _ (List.mem_append_left _ (List.mem_append_left _ (List.mem_append_left _ (List.mem_append_left _ (List.mem_append_left _ (List.mem_append_left _ (List.mem_append_left _ (List.mem_of_getElem? (i := 2) rfl))))))))) (Or.inl rfl) dX11_carries_77 ?_
            obtain ⟨r_9, hc, hf⟩ := bd_e1 hf
            refine vc_X11_carries_80 hC z_4.1 z_4.2.1 z_4.2.2 o_3 hcz_4 h r_9 hoz_4 haz_4 hc (st := [.long r_8]) (Nat.le_of_ble_eq_true rfl) ?_
            refine go_iload_n hC dX11_carries_83 rfl 4 rfl ?_
            obtain ⟨r_10, hc, hf⟩ := bd_e1 hf
            refine go_callS hC (c_X11_inLeastTerms r_8 r_9 x3 h r_10 hc) gX11_carries_X11_inLeastTerms rfl ⟨rfl, rfl⟩ 3 e_X11_inLeastTerms ⟨Nat.le_of_ble_eq_true rfl, Nat.le_of_ble_eq_true rfl⟩ rfl (st := []) (st1 := [.long r_10]) rfl rfl (Nat.le_of_ble_eq_true rfl) ⟨Nat.zero_le _, Nat.zero_le _⟩ dX11_carries_84 ?_
            obtain rfl := so_1 hf
            exact hret _ _ dX11_carries_87
          · replace hf := if_t c_11 hf
            refine go_ldc2 hC (v := (-9223372036854775808)) (List.mem_cons_of_mem _ (List.mem_append_left _ (List.mem_append_left _ (List.mem_append_left _ (List.mem_append_left _ (List.mem_append_left _ (List.mem_append_left _ (List.mem_append_left _ (List.mem_of_getElem? (i := 0) rfl))))))))) dX11_carries_52 ?_
            obtain rfl := so_1 hf
            exact hret _ _ dX11_carries_55
        · replace hf := if_t c_12 hf
          refine go_ldc2 hC (v := (-9223372036854775808)) (List.mem_cons_of_mem _ (List.mem_append_left _ (List.mem_append_left _ (List.mem_append_left _ (List.mem_append_left _ (List.mem_append_left _ (List.mem_append_left _ (List.mem_append_left _ (List.mem_of_getElem? (i := 0) rfl))))))))) dX11_carries_32 ?_
          obtain rfl := so_1 hf
          exact hret _ _ dX11_carries_35
def f_X11_drop (x1 : Int32) (x2 : Int32) (x3 : Int32) (h : PH) : Option (Int64) :=
  bd_1 (f_X11_wayOf x1 h) fun r_1 =>
  mo_b r_1 (
  some (-9223372036854775808)) fun o_3 =>
  bd_1 (ch_at h o_3) fun z_4 =>
  if x2 < 0 then (
  some (-9223372036854775808))
  else (
  gz_i (h.1 o_3 2) (
  if (Int32.ofNat z_4.2.2) ≤ x2 then (
  some (-9223372036854775808))
  else (
  bd_1 (f_X11_isHalfOfShare x3 h) fun r_6 =>
  if r_6 = 0 then (
  some (-9223372036854775808))
  else (
  bd_1 (f_X1_canBeLaid z_4.1 z_4.2.1 z_4.2.2 o_3 h) fun r_7 =>
  if r_7 = 0 then (
  some (-9223372036854775808))
  else (
  bd_1 (vd_carriedLower z_4.1 z_4.2.1 z_4.2.2 o_3 h) fun r_8 =>
  bd_1 (vd_strands z_4.1 z_4.2.1 z_4.2.2 o_3 h) fun r_9 =>
  lt_b (r_8 * r_9.toInt64) fun x5_10 =>
  bd_1 (f_X1_droppedUpper z_4.1 z_4.2.1 z_4.2.2 o_3 x2 h) fun r_11 =>
  bd_1 (f_X11_inLeastTerms r_11 x5_10 x3 h) fun r_12 =>
  some r_12)))))
set_option maxRecDepth 100000 in
theorem vc_X11_drop_47 {C : GC} (hC : Cx C cX11_drop 7 wsX11_drop RX11 (some .long) (rm_d 6)) (ci a n o : Nat) (hci : ci = 1 ∨ ci = 7 ∨ ci = 9)  (h : PH) (r : Int32) (ho : (l0_B ++ h.2.2.2)[o]? = some (.inr (ci, [(0, 0), (0, 0), (2, a)]))) (ha : (l0_B ++ h.2.2.2)[a]? = some (.inl (0, n))) (hc : f_X1_canBeLaid ci a n o h = some r) {L : List (Nat × Value)} {st : List Value} (hsum : (st.map fun v => v.category).sum ≤ 8) (kk : Go l0_B C 0 0 50 L (.int r :: st) h) : Go l0_B C 0 0 47 L (.ref 17 :: .ref 10 :: .ref o :: st) h := by
  rcases hci with rfl | rfl | rfl
  · exact go_callV hC (c_X1_canBeLaid_X1 a n o h r ho ha hc) gX11_drop_X1_canBeLaid rfl ⟨rfl, rfl⟩ 2 e_X1_canBeLaid ⟨Nat.le_of_ble_eq_true rfl, Nat.le_of_ble_eq_true rfl⟩ ho rfl rfl (st := st) (st1 := (.int r :: st)) rfl rfl hsum ⟨Nat.zero_le _, Nat.zero_le _⟩ dX11_drop_47 kk
  · exact go_callU hC (c_X1_canBeLaid_X7 a n o h r ho ha hc) gX11_drop_X1_canBeLaid_u225X7 rfl ⟨rfl, rfl⟩ rfl 2 (by decide +kernel) ⟨Nat.le_of_ble_eq_true rfl, Nat.le_of_ble_eq_true rfl⟩ ho rfl rfl (st := st) (st1 := (.int r :: st)) rfl rfl hsum ⟨Nat.zero_le _, Nat.zero_le _⟩ dX11_drop_47 kk
  · exact go_callU hC (c_X1_canBeLaid_X9 a n o h r ho ha hc) gX11_drop_X1_canBeLaid_u225X9 rfl ⟨rfl, rfl⟩ rfl 2 (by decide +kernel) ⟨Nat.le_of_ble_eq_true rfl, Nat.le_of_ble_eq_true rfl⟩ ho rfl rfl (st := st) (st1 := (.int r :: st)) rfl rfl hsum ⟨Nat.zero_le _, Nat.zero_le _⟩ dX11_drop_47 kk
set_option maxRecDepth 100000 in
theorem vc_X11_drop_67 {C : GC} (hC : Cx C cX11_drop 7 wsX11_drop RX11 (some .long) (rm_d 6)) (ci a n o : Nat) (hci : ci = 1 ∨ ci = 7 ∨ ci = 9)  (h : PH) (r : Int64) (ho : (l0_B ++ h.2.2.2)[o]? = some (.inr (ci, [(0, 0), (0, 0), (2, a)]))) (ha : (l0_B ++ h.2.2.2)[a]? = some (.inl (0, n))) (hc : vd_carriedLower ci a n o h = some r) {L : List (Nat × Value)} {st : List Value} (hsum : (st.map fun v => v.category).sum ≤ 8) (kk : Go l0_B C 0 0 70 L (.long r :: st) h) : Go l0_B C 0 0 67 L (.ref 17 :: .ref 10 :: .ref o :: st) h := by
  rcases hci with rfl | rfl | rfl
  · exact go_callV hC (c_X1_carriedLower_X1 a n o h r ho ha hc) gX11_drop_X1_carriedLower rfl ⟨rfl, rfl⟩ 2 e_X1_carriedLower ⟨Nat.le_of_ble_eq_true rfl, Nat.le_of_ble_eq_true rfl⟩ ho rfl rfl (st := st) (st1 := (.long r :: st)) rfl rfl hsum ⟨Nat.zero_le _, Nat.zero_le _⟩ dX11_drop_67 kk
  · exact go_callO hC (c_X7_carriedLower_X7 a n o h r ho ha hc) gX11_drop_X7_carriedLower_u248X7 rfl ⟨rfl, rfl⟩ (List.mem_cons_of_mem _ (List.mem_append_left _ (List.mem_append_left _ (List.mem_append_left _ (List.mem_append_left _ (List.mem_append_left _ (List.mem_append_left _ (List.mem_append_right _ (List.mem_append_right _ (List.mem_append_left _ (List.mem_of_getElem? (i := 19) rfl))))))))))) 2 (by decide +kernel) ⟨Nat.le_of_ble_eq_true rfl, Nat.le_of_ble_eq_true rfl⟩ ho rfl rfl (st := st) (st1 := (.long r :: st)) rfl rfl hsum ⟨Nat.zero_le _, Nat.zero_le _⟩ dX11_drop_67 kk
  · exact go_callO hC (c_X7_carriedLower_X9 a n o h r ho ha hc) gX11_drop_X7_carriedLower_u248X9 rfl ⟨rfl, rfl⟩ (List.mem_cons_of_mem _ (List.mem_append_left _ (List.mem_append_left _ (List.mem_append_left _ (List.mem_append_left _ (List.mem_append_left _ (List.mem_append_left _ (List.mem_append_right _ (List.mem_append_right _ (List.mem_append_left _ (List.mem_of_getElem? (i := 19) rfl))))))))))) 2 (by decide +kernel) ⟨Nat.le_of_ble_eq_true rfl, Nat.le_of_ble_eq_true rfl⟩ ho rfl rfl (st := st) (st1 := (.long r :: st)) rfl rfl hsum ⟨Nat.zero_le _, Nat.zero_le _⟩ dX11_drop_67 kk
set_option maxRecDepth 100000 in
theorem vc_X11_drop_72 {C : GC} (hC : Cx C cX11_drop 7 wsX11_drop RX11 (some .long) (rm_d 6)) (ci a n o : Nat) (hci : ci = 1 ∨ ci = 7 ∨ ci = 9)  (h : PH) (r : Int32) (ho : (l0_B ++ h.2.2.2)[o]? = some (.inr (ci, [(0, 0), (0, 0), (2, a)]))) (ha : (l0_B ++ h.2.2.2)[a]? = some (.inl (0, n))) (hc : vd_strands ci a n o h = some r) {L : List (Nat × Value)} {st : List Value} (hsum : (st.map fun v => v.category).sum ≤ 8) (kk : Go l0_B C 0 0 75 L (.int r :: st) h) : Go l0_B C 0 0 72 L (.ref o :: st) h := by
  rcases hci with rfl | rfl | rfl
  · exact go_callV hC (c_X1_strands_X1 a n o h r ho ha hc) gX11_drop_X1_strands rfl ⟨rfl, rfl⟩ 0 e_X1_strands ⟨Nat.le_of_ble_eq_true rfl, Nat.le_of_ble_eq_true rfl⟩ ho rfl rfl (st := st) (st1 := (.int r :: st)) rfl rfl hsum ⟨Nat.zero_le _, Nat.zero_le _⟩ dX11_drop_72 kk
  · exact go_callU hC (c_X1_strands_X7 a n o h r ho ha hc) gX11_drop_X1_strands_u229X7 rfl ⟨rfl, rfl⟩ rfl 0 (by decide +kernel) ⟨Nat.le_of_ble_eq_true rfl, Nat.le_of_ble_eq_true rfl⟩ ho rfl rfl (st := st) (st1 := (.int r :: st)) rfl rfl hsum ⟨Nat.zero_le _, Nat.zero_le _⟩ dX11_drop_72 kk
  · exact go_callO hC (c_X9_strands_X9 a n o h r ho ha hc) gX11_drop_X9_strands_u229X9 rfl ⟨rfl, rfl⟩ (List.mem_cons_of_mem _ (List.mem_append_left _ (List.mem_append_left _ (List.mem_append_left _ (List.mem_append_left _ (List.mem_append_left _ (List.mem_append_left _ (List.mem_append_right _ (List.mem_append_right _ (List.mem_append_right _ (List.mem_append_left _ (List.mem_of_getElem? (i := 12) rfl)))))))))))) 0 (by decide +kernel) ⟨Nat.le_of_ble_eq_true rfl, Nat.le_of_ble_eq_true rfl⟩ ho rfl rfl (st := st) (st1 := (.int r :: st)) rfl rfl hsum ⟨Nat.zero_le _, Nat.zero_le _⟩ dX11_drop_72 kk
set_option maxRecDepth 100000 in
theorem vc_X11_drop_90 {C : GC} (hC : Cx C cX11_drop 7 wsX11_drop RX11 (some .long) (rm_d 6)) (ci a n o : Nat) (hci : ci = 1 ∨ ci = 7 ∨ ci = 9) (y0 : Int32) (h : PH) (r : Int64) (ho : (l0_B ++ h.2.2.2)[o]? = some (.inr (ci, [(0, 0), (0, 0), (2, a)]))) (ha : (l0_B ++ h.2.2.2)[a]? = some (.inl (0, n))) (hc : f_X1_droppedUpper ci a n o y0 h = some r) {L : List (Nat × Value)} {st : List Value} (hsum : (st.map fun v => v.category).sum ≤ 8) (kk : Go l0_B C 0 0 93 L (.long r :: st) h) : Go l0_B C 0 0 90 L (.ref 17 :: .ref 10 :: .int y0 :: .ref o :: st) h := by
  rcases hci with rfl | rfl | rfl
  · exact go_callV hC (c_X1_droppedUpper_X1 a n o y0 h r ho ha hc) gX11_drop_X1_droppedUpper rfl ⟨rfl, rfl⟩ 3 e_X1_droppedUpper ⟨Nat.le_of_ble_eq_true rfl, Nat.le_of_ble_eq_true rfl⟩ ho rfl rfl (st := st) (st1 := (.long r :: st)) rfl rfl hsum ⟨Nat.zero_le _, Nat.zero_le _⟩ dX11_drop_90 kk
  · exact go_callU hC (c_X1_droppedUpper_X7 a n o y0 h r ho ha hc) gX11_drop_X1_droppedUpper_u256X7 rfl ⟨rfl, rfl⟩ rfl 3 (by decide +kernel) ⟨Nat.le_of_ble_eq_true rfl, Nat.le_of_ble_eq_true rfl⟩ ho rfl rfl (st := st) (st1 := (.long r :: st)) rfl rfl hsum ⟨Nat.zero_le _, Nat.zero_le _⟩ dX11_drop_90 kk
  · exact go_callU hC (c_X1_droppedUpper_X9 a n o y0 h r ho ha hc) gX11_drop_X1_droppedUpper_u256X9 rfl ⟨rfl, rfl⟩ rfl 3 (by decide +kernel) ⟨Nat.le_of_ble_eq_true rfl, Nat.le_of_ble_eq_true rfl⟩ ho rfl rfl (st := st) (st1 := (.long r :: st)) rfl rfl hsum ⟨Nat.zero_le _, Nat.zero_le _⟩ dX11_drop_90 kk
theorem e_X11_drop : yX11_drop.cls = RX11 ∧ yX11_drop.cls ≠ "java/lang/invoke/MethodHandle" ∧ yX11_drop.cls ≠ "java/lang/invoke/VarHandle" ∧ (parseMethodDescriptor yX11_drop.desc).map (fun d => d.parameters.length) = some 3 := by decide +kernel
set_option maxRecDepth 100000 in
set_option maxHeartbeats 4000000 in
theorem c_X11_drop (x1 : Int32) (x2 : Int32) (x3 : Int32) (h : PH) (r : Int64) (hf : f_X11_drop x1 x2 x3 h = some r) : Con yX11_drop wsX11_drop (rm_d 6) l0_B [.ref 0, .int x1, .int x2, .int x3] h (some (.long r)) h := by
  have hn1 : ∀ w ∈ wsX10, w ∈ wsX11_drop := (fun _ hw => (List.mem_cons_of_mem _ (List.mem_append_left _ (List.mem_append_left _ (List.mem_append_left _ (List.mem_append_left _ (List.mem_append_left _ (List.mem_append_right _ hw))))))))
  have hn11 : ∀ w ∈ wsX110, w ∈ wsX11_drop := (fun _ hw => (List.mem_cons_of_mem _ (List.mem_append_left _ (List.mem_append_left _ (List.mem_append_right _ hw)))))
  have hn7 : ∀ w ∈ wsX70, w ∈ wsX11_drop := (fun _ hw => (List.mem_cons_of_mem _ (List.mem_append_left _ (List.mem_append_left _ (List.mem_append_left _ (List.mem_append_left _ (List.mem_append_right _ hw)))))))
  have hn9 : ∀ w ∈ wsX90, w ∈ wsX11_drop := (fun _ hw => (List.mem_cons_of_mem _ (List.mem_append_left _ (List.mem_append_left _ (List.mem_append_left _ (List.mem_append_right _ hw))))))
  refine con_l (cc := cX11_drop) (nL := 7) (by decide) rfl (Nat.le_of_ble_eq_true rfl) ?_
  intro C hC hret
  change Go l0_B C 0 0 0 [(0, .ref 0), (1, .int x1), (2, .int x2), (3, .int x3)] [] h
  unfold f_X11_drop at hf
  refine go_aload_n hC dX11_drop_0 rfl 0 rfl ?_
  refine go_iload_n hC dX11_drop_1 rfl 1 rfl ?_
  obtain ⟨r_1, hc, hf⟩ := bd_e1 hf
  refine go_callV hC (c_X11_wayOf x1 h r_1 hc) gX11_drop_X11_wayOf rfl ⟨rfl, rfl⟩ 1 e_X11_wayOf ⟨Nat.le_of_ble_eq_true rfl, Nat.le_of_ble_eq_true rfl⟩ (b_0 _) rfl rfl (st := []) (st1 := (rv_o r_1 :: [])) rfl rfl (Nat.le_of_ble_eq_true rfl) ⟨Nat.zero_le _, Nat.zero_le _⟩ dX11_drop_2 ?_
  rcases mo_e hf with ⟨q_2, hf⟩ | ⟨o_3, q_2, hf⟩
  · refine go_topn q_2 ?_
    refine go_astoreN hC dX11_drop_5 (Nat.le_of_ble_eq_true rfl) rfl ?_
    refine go_aloadN hC dX11_drop_7 0 rfl ?_
    refine go_ifnullN hC dX11_drop_9 (tgt := 33) (by decide) ?_
    refine go_ldc2 hC (v := (-9223372036854775808)) (List.mem_cons_of_mem _ (List.mem_append_left _ (List.mem_append_left _ (List.mem_append_left _ (List.mem_append_left _ (List.mem_append_left _ (List.mem_append_left _ (List.mem_append_left _ (List.mem_of_getElem? (i := 1) rfl))))))))) dX11_drop_33 ?_
    obtain rfl := so_1 hf
    exact hret _ _ dX11_drop_36
  · refine go_tops q_2 ?_
    obtain ⟨z_4, hz_4, hf⟩ := bd_e1 hf
    obtain ⟨hcz_4, hoz_4, haz_4⟩ := ch_e hz_4
    refine go_astore hC dX11_drop_5 (Nat.le_of_ble_eq_true rfl) rfl ?_
    refine go_aload hC dX11_drop_7 0 rfl ?_
    refine go_ifnull hC dX11_drop_9 ?_
    refine go_iload_n hC dX11_drop_12 rfl 3 rfl ?_
    refine go_if_lt hC dX11_drop_13 (tgt := 33) (by decide) (fun c_16 => ?_) (fun c_16 => ?_)
    · replace hf := if_t c_16 hf
      refine go_ldc2 hC (v := (-9223372036854775808)) (List.mem_cons_of_mem _ (List.mem_append_left _ (List.mem_append_left _ (List.mem_append_left _ (List.mem_append_left _ (List.mem_append_left _ (List.mem_append_left _ (List.mem_append_left _ (List.mem_of_getElem? (i := 1) rfl))))))))) dX11_drop_33 ?_
      obtain rfl := so_1 hf
      exact hret _ _ dX11_drop_36
    · replace hf := if_f c_16 hf
      refine go_iload_n hC dX11_drop_16 rfl 3 rfl ?_
      refine go_aload hC dX11_drop_17 0 rfl ?_
      obtain ⟨g_5, hf⟩ := gz_e hf
      refine go_ways hC hoz_4 hcz_4 hn1 hn7 hn9 (List.mem_cons_of_mem _ (List.mem_append_left _ (List.mem_append_left _ (List.mem_append_left _ (List.mem_append_left _ (List.mem_append_left _ (List.mem_append_left _ (List.mem_append_left _ (List.mem_of_getElem? (i := 0) rfl))))))))) g_5 dX11_drop_19 ?_
      refine go_alen hC haz_4 (Nat.le_of_ble_eq_true rfl) rfl dX11_drop_22 ?_
      refine go_icmp_ge hC dX11_drop_23 (tgt := 33) (by decide) (fun c_15 => ?_) (fun c_15 => ?_)
      · replace hf := if_t c_15 hf
        refine go_ldc2 hC (v := (-9223372036854775808)) (List.mem_cons_of_mem _ (List.mem_append_left _ (List.mem_append_left _ (List.mem_append_left _ (List.mem_append_left _ (List.mem_append_left _ (List.mem_append_left _ (List.mem_append_left _ (List.mem_of_getElem? (i := 1) rfl))))))))) dX11_drop_33 ?_
        obtain rfl := so_1 hf
        exact hret _ _ dX11_drop_36
      · replace hf := if_f c_15 hf
        refine go_iload_n hC dX11_drop_26 rfl 4 rfl ?_
        obtain ⟨r_6, hc, hf⟩ := bd_e1 hf
        refine go_callS hC (c_X11_isHalfOfShare x3 h r_6 hc) gX11_drop_X11_isHalfOfShare rfl ⟨rfl, rfl⟩ 1 e_X11_isHalfOfShare ⟨Nat.le_of_ble_eq_true rfl, Nat.le_of_ble_eq_true rfl⟩ rfl (st := []) (st1 := [.int r_6]) rfl rfl (Nat.le_of_ble_eq_true rfl) ⟨Nat.zero_le _, Nat.zero_le _⟩ dX11_drop_27 ?_
        refine go_if_ne hC dX11_drop_30 (tgt := 37) (by decide) (fun c_14 => ?_) (fun c_14 => ?_)
        · replace hf := if_f c_14 hf
          refine go_aload hC dX11_drop_37 0 rfl ?_
          refine go_aload_n hC dX11_drop_39 rfl 1 rfl ?_
          refine go_getr hC (j := 2) (idx := 28) (nm := "plot") (ds := "LLampWays$House;") (b_0 _) rfl rfl hn11 (Nat.le_of_ble_eq_true rfl) rfl rfl (List.mem_cons_of_mem _ (List.mem_append_left _ (List.mem_append_left _ (List.mem_append_left _ (List.mem_append_left _ (List.mem_append_left _ (List.mem_append_left _ (List.mem_append_left _ (List.mem_of_getElem? (i := 2) rfl))))))))) (Or.inl rfl) dX11_drop_40 ?_
          refine go_aload_n hC dX11_drop_43 rfl 1 rfl ?_
          refine go_getr hC (j := 3) (idx := 35) (nm := "points") (ds := "LLampWays$Points;") (b_0 _) rfl rfl hn11 (Nat.le_of_ble_eq_true rfl) rfl rfl (List.mem_cons_of_mem _ (List.mem_append_left _ (List.mem_append_left _ (List.mem_append_left _ (List.mem_append_left _ (List.mem_append_left _ (List.mem_append_left _ (List.mem_append_left _ (List.mem_of_getElem? (i := 3) rfl))))))))) (Or.inl rfl) dX11_drop_44 ?_
          obtain ⟨r_7, hc, hf⟩ := bd_e1 hf
          refine vc_X11_drop_47 hC z_4.1 z_4.2.1 z_4.2.2 o_3 hcz_4 h r_7 hoz_4 haz_4 hc (st := []) (Nat.le_of_ble_eq_true rfl) ?_
          refine go_if_ne hC dX11_drop_50 (tgt := 57) (by decide) (fun c_13 => ?_) (fun c_13 => ?_)
          · replace hf := if_f c_13 hf
            refine go_aload hC dX11_drop_57 0 rfl ?_
            refine go_aload_n hC dX11_drop_59 rfl 1 rfl ?_
            refine go_getr hC (j := 2) (idx := 28) (nm := "plot") (ds := "LLampWays$House;") (b_0 _) rfl rfl hn11 (Nat.le_of_ble_eq_true rfl) rfl rfl (List.mem_cons_of_mem _ (List.mem_append_left _ (List.mem_append_left _ (List.mem_append_left _ (List.mem_append_left _ (List.mem_append_left _ (List.mem_append_left _ (List.mem_append_left _ (List.mem_of_getElem? (i := 2) rfl))))))))) (Or.inl rfl) dX11_drop_60 ?_
            refine go_aload_n hC dX11_drop_63 rfl 1 rfl ?_
            refine go_getr hC (j := 3) (idx := 35) (nm := "points") (ds := "LLampWays$Points;") (b_0 _) rfl rfl hn11 (Nat.le_of_ble_eq_true rfl) rfl rfl (List.mem_cons_of_mem _ (List.mem_append_left _ (List.mem_append_left _ (List.mem_append_left _ (List.mem_append_left _ (List.mem_append_left _ (List.mem_append_left _ (List.mem_append_left _ (List.mem_of_getElem? (i := 3) rfl))))))))) (Or.inl rfl) dX11_drop_64 ?_
            obtain ⟨r_8, hc, hf⟩ := bd_e1 hf
            refine vc_X11_drop_67 hC z_4.1 z_4.2.1 z_4.2.2 o_3 hcz_4 h r_8 hoz_4 haz_4 hc (st := []) (Nat.le_of_ble_eq_true rfl) ?_
            refine go_aload hC dX11_drop_70 0 rfl ?_
            obtain ⟨r_9, hc, hf⟩ := bd_e1 hf
            refine vc_X11_drop_72 hC z_4.1 z_4.2.1 z_4.2.2 o_3 hcz_4 h r_9 hoz_4 haz_4 hc (st := [.long r_8]) (Nat.le_of_ble_eq_true rfl) ?_
            refine go_i2l hC dX11_drop_75 ?_
            refine go_lmul hC dX11_drop_76 ?_
            obtain ⟨x5_10, ex5_10, hf⟩ := lt_e hf
            refine go_topl ex5_10 ?_
            refine go_lstore hC dX11_drop_77 (Nat.le_of_ble_eq_true rfl) rfl ?_
            refine go_aload hC dX11_drop_79 1 rfl ?_
            refine go_iload_n hC dX11_drop_81 rfl 4 rfl ?_
            refine go_aload_n hC dX11_drop_82 rfl 2 rfl ?_
            refine go_getr hC (j := 2) (idx := 28) (nm := "plot") (ds := "LLampWays$House;") (b_0 _) rfl rfl hn11 (Nat.le_of_ble_eq_true rfl) rfl rfl (List.mem_cons_of_mem _ (List.mem_append_left _ (List.mem_append_left _ (List.mem_append_left _ (List.mem_append_left _ (List.mem_append_left _ (List.mem_append_left _ (List.mem_append_left _ (List.mem_of_getElem? (i := 2) rfl))))))))) (Or.inl rfl) dX11_drop_83 ?_
            refine go_aload_n hC dX11_drop_86 rfl 2 rfl ?_
            refine go_getr hC (j := 3) (idx := 35) (nm := "points") (ds := "LLampWays$Points;") (b_0 _) rfl rfl hn11 (Nat.le_of_ble_eq_true rfl) rfl rfl (List.mem_cons_of_mem _ (List.mem_append_left _ (List.mem_append_left _ (List.mem_append_left _ (List.mem_append_left _ (List.mem_append_left _ (List.mem_append_left _ (List.mem_append_left _ (List.mem_of_getElem? (i := 3) rfl))))))))) (Or.inl rfl) dX11_drop_87 ?_
            obtain ⟨r_11, hc, hf⟩ := bd_e1 hf
            refine vc_X11_drop_90 hC z_4.1 z_4.2.1 z_4.2.2 o_3 hcz_4 x2 h r_11 hoz_4 haz_4 hc (st := []) (Nat.le_of_ble_eq_true rfl) ?_
            refine go_lload hC dX11_drop_93 0 rfl ?_
            refine go_iload_n hC dX11_drop_95 rfl 5 rfl ?_
            obtain ⟨r_12, hc, hf⟩ := bd_e1 hf
            refine go_callS hC (c_X11_inLeastTerms r_11 x5_10 x3 h r_12 hc) gX11_drop_X11_inLeastTerms rfl ⟨rfl, rfl⟩ 3 e_X11_inLeastTerms ⟨Nat.le_of_ble_eq_true rfl, Nat.le_of_ble_eq_true rfl⟩ rfl (st := []) (st1 := [.long r_12]) rfl rfl (Nat.le_of_ble_eq_true rfl) ⟨Nat.zero_le _, Nat.zero_le _⟩ dX11_drop_96 ?_
            obtain rfl := so_1 hf
            exact hret _ _ dX11_drop_99
          · replace hf := if_t c_13 hf
            refine go_ldc2 hC (v := (-9223372036854775808)) (List.mem_cons_of_mem _ (List.mem_append_left _ (List.mem_append_left _ (List.mem_append_left _ (List.mem_append_left _ (List.mem_append_left _ (List.mem_append_left _ (List.mem_append_left _ (List.mem_of_getElem? (i := 1) rfl))))))))) dX11_drop_53 ?_
            obtain rfl := so_1 hf
            exact hret _ _ dX11_drop_56
        · replace hf := if_t c_14 hf
          refine go_ldc2 hC (v := (-9223372036854775808)) (List.mem_cons_of_mem _ (List.mem_append_left _ (List.mem_append_left _ (List.mem_append_left _ (List.mem_append_left _ (List.mem_append_left _ (List.mem_append_left _ (List.mem_append_left _ (List.mem_of_getElem? (i := 1) rfl))))))))) dX11_drop_33 ?_
          obtain rfl := so_1 hf
          exact hret _ _ dX11_drop_36
def f_X11_tooMuch (x1 : Int32) (h : PH) : Option (Int32) :=
  bd_1 (f_X11_wayOf x1 h) fun r_1 =>
  mo_b r_1 (
  some (-1)) fun o_3 =>
  bd_1 (ch_at h o_3) fun z_4 =>
  bd_1 (f_X1_canBeLaid z_4.1 z_4.2.1 z_4.2.2 o_3 h) fun r_5 =>
  if r_5 = 0 then (
  some (-3))
  else (
  bd_1 (f_X1_firstOverFuse z_4.1 z_4.2.1 z_4.2.2 o_3 h) fun r_6 =>
  some r_6)
set_option maxRecDepth 100000 in
theorem vc_X11_tooMuch_21 {C : GC} (hC : Cx C cX11_tooMuch 3 wsX11_tooMuch RX11 (some .int) (rm_d 6)) (ci a n o : Nat) (hci : ci = 1 ∨ ci = 7 ∨ ci = 9)  (h : PH) (r : Int32) (ho : (l0_B ++ h.2.2.2)[o]? = some (.inr (ci, [(0, 0), (0, 0), (2, a)]))) (ha : (l0_B ++ h.2.2.2)[a]? = some (.inl (0, n))) (hc : f_X1_canBeLaid ci a n o h = some r) {L : List (Nat × Value)} {st : List Value} (hsum : (st.map fun v => v.category).sum ≤ 8) (kk : Go l0_B C 0 0 24 L (.int r :: st) h) : Go l0_B C 0 0 21 L (.ref 17 :: .ref 10 :: .ref o :: st) h := by
  rcases hci with rfl | rfl | rfl
  · exact go_callV hC (c_X1_canBeLaid_X1 a n o h r ho ha hc) gX11_tooMuch_X1_canBeLaid rfl ⟨rfl, rfl⟩ 2 e_X1_canBeLaid ⟨Nat.le_of_ble_eq_true rfl, Nat.le_of_ble_eq_true rfl⟩ ho rfl rfl (st := st) (st1 := (.int r :: st)) rfl rfl hsum ⟨Nat.zero_le _, Nat.zero_le _⟩ dX11_tooMuch_21 kk
  · exact go_callU hC (c_X1_canBeLaid_X7 a n o h r ho ha hc) gX11_tooMuch_X1_canBeLaid_u225X7 rfl ⟨rfl, rfl⟩ rfl 2 (by decide +kernel) ⟨Nat.le_of_ble_eq_true rfl, Nat.le_of_ble_eq_true rfl⟩ ho rfl rfl (st := st) (st1 := (.int r :: st)) rfl rfl hsum ⟨Nat.zero_le _, Nat.zero_le _⟩ dX11_tooMuch_21 kk
  · exact go_callU hC (c_X1_canBeLaid_X9 a n o h r ho ha hc) gX11_tooMuch_X1_canBeLaid_u225X9 rfl ⟨rfl, rfl⟩ rfl 2 (by decide +kernel) ⟨Nat.le_of_ble_eq_true rfl, Nat.le_of_ble_eq_true rfl⟩ ho rfl rfl (st := st) (st1 := (.int r :: st)) rfl rfl hsum ⟨Nat.zero_le _, Nat.zero_le _⟩ dX11_tooMuch_21 kk
set_option maxRecDepth 100000 in
theorem vc_X11_tooMuch_36 {C : GC} (hC : Cx C cX11_tooMuch 3 wsX11_tooMuch RX11 (some .int) (rm_d 6)) (ci a n o : Nat) (hci : ci = 1 ∨ ci = 7 ∨ ci = 9)  (h : PH) (r : Int32) (ho : (l0_B ++ h.2.2.2)[o]? = some (.inr (ci, [(0, 0), (0, 0), (2, a)]))) (ha : (l0_B ++ h.2.2.2)[a]? = some (.inl (0, n))) (hc : f_X1_firstOverFuse ci a n o h = some r) {L : List (Nat × Value)} {st : List Value} (hsum : (st.map fun v => v.category).sum ≤ 8) (kk : Go l0_B C 0 0 39 L (.int r :: st) h) : Go l0_B C 0 0 36 L (.ref 17 :: .ref 10 :: .ref o :: st) h := by
  rcases hci with rfl | rfl | rfl
  · exact go_callV hC (c_X1_firstOverFuse_X1 a n o h r ho ha hc) gX11_tooMuch_X1_firstOverFuse rfl ⟨rfl, rfl⟩ 2 e_X1_firstOverFuse ⟨Nat.le_of_ble_eq_true rfl, Nat.le_of_ble_eq_true rfl⟩ ho rfl rfl (st := st) (st1 := (.int r :: st)) rfl rfl hsum ⟨Nat.zero_le _, Nat.zero_le _⟩ dX11_tooMuch_36 kk
  · exact go_callU hC (c_X1_firstOverFuse_X7 a n o h r ho ha hc) gX11_tooMuch_X1_firstOverFuse_u259X7 rfl ⟨rfl, rfl⟩ rfl 2 (by decide +kernel) ⟨Nat.le_of_ble_eq_true rfl, Nat.le_of_ble_eq_true rfl⟩ ho rfl rfl (st := st) (st1 := (.int r :: st)) rfl rfl hsum ⟨Nat.zero_le _, Nat.zero_le _⟩ dX11_tooMuch_36 kk
  · exact go_callU hC (c_X1_firstOverFuse_X9 a n o h r ho ha hc) gX11_tooMuch_X1_firstOverFuse_u259X9 rfl ⟨rfl, rfl⟩ rfl 2 (by decide +kernel) ⟨Nat.le_of_ble_eq_true rfl, Nat.le_of_ble_eq_true rfl⟩ ho rfl rfl (st := st) (st1 := (.int r :: st)) rfl rfl hsum ⟨Nat.zero_le _, Nat.zero_le _⟩ dX11_tooMuch_36 kk
theorem e_X11_tooMuch : yX11_tooMuch.cls = RX11 ∧ yX11_tooMuch.cls ≠ "java/lang/invoke/MethodHandle" ∧ yX11_tooMuch.cls ≠ "java/lang/invoke/VarHandle" ∧ (parseMethodDescriptor yX11_tooMuch.desc).map (fun d => d.parameters.length) = some 1 := by decide +kernel
set_option maxRecDepth 100000 in
set_option maxHeartbeats 4000000 in
theorem c_X11_tooMuch (x1 : Int32) (h : PH) (r : Int32) (hf : f_X11_tooMuch x1 h = some r) : Con yX11_tooMuch wsX11_tooMuch (rm_d 6) l0_B [.ref 0, .int x1] h (some (.int r)) h := by
  have hn11 : ∀ w ∈ wsX110, w ∈ wsX11_tooMuch := (fun _ hw => (List.mem_cons_of_mem _ (List.mem_append_left _ (List.mem_append_left _ (List.mem_append_left _ (List.mem_append_left _ (List.mem_append_left _ (List.mem_append_right _ hw))))))))
  refine con_i (ty := .int) (cc := cX11_tooMuch) (nL := 3) (by decide) rfl (Nat.le_of_ble_eq_true rfl) ?_
  intro C hC hret
  change Go l0_B C 0 0 0 [(0, .ref 0), (1, .int x1)] [] h
  unfold f_X11_tooMuch at hf
  refine go_aload_n hC dX11_tooMuch_0 rfl 0 rfl ?_
  refine go_iload_n hC dX11_tooMuch_1 rfl 1 rfl ?_
  obtain ⟨r_1, hc, hf⟩ := bd_e1 hf
  refine go_callV hC (c_X11_wayOf x1 h r_1 hc) gX11_tooMuch_X11_wayOf rfl ⟨rfl, rfl⟩ 1 e_X11_wayOf ⟨Nat.le_of_ble_eq_true rfl, Nat.le_of_ble_eq_true rfl⟩ (b_0 _) rfl rfl (st := []) (st1 := (rv_o r_1 :: [])) rfl rfl (Nat.le_of_ble_eq_true rfl) ⟨Nat.zero_le _, Nat.zero_le _⟩ dX11_tooMuch_2 ?_
  rcases mo_e hf with ⟨q_2, hf⟩ | ⟨o_3, q_2, hf⟩
  · refine go_topn q_2 ?_
    refine go_astore_nN hC dX11_tooMuch_5 rfl (Nat.le_of_ble_eq_true rfl) rfl ?_
    refine go_aload_nN hC dX11_tooMuch_6 rfl 0 rfl ?_
    refine go_ifnonnullN hC dX11_tooMuch_7 ?_
    refine go_iconst hC dX11_tooMuch_10 k1_m1 ?_
    obtain rfl := so_1 hf
    exact hret _ _ rfl dX11_tooMuch_11
  · refine go_tops q_2 ?_
    obtain ⟨z_4, hz_4, hf⟩ := bd_e1 hf
    obtain ⟨hcz_4, hoz_4, haz_4⟩ := ch_e hz_4
    refine go_astore_n hC dX11_tooMuch_5 rfl (Nat.le_of_ble_eq_true rfl) rfl ?_
    refine go_aload_n hC dX11_tooMuch_6 rfl 0 rfl ?_
    refine go_ifnonnull hC dX11_tooMuch_7 (tgt := 12) (by decide) ?_
    refine go_aload_n hC dX11_tooMuch_12 rfl 0 rfl ?_
    refine go_aload_n hC dX11_tooMuch_13 rfl 1 rfl ?_
    refine go_getr hC (j := 2) (idx := 28) (nm := "plot") (ds := "LLampWays$House;") (b_0 _) rfl rfl hn11 (Nat.le_of_ble_eq_true rfl) rfl rfl (List.mem_cons_of_mem _ (List.mem_append_left _ (List.mem_append_left _ (List.mem_append_left _ (List.mem_append_left _ (List.mem_append_left _ (List.mem_append_left _ (List.mem_append_left _ (List.mem_of_getElem? (i := 0) rfl))))))))) (Or.inl rfl) dX11_tooMuch_14 ?_
    refine go_aload_n hC dX11_tooMuch_17 rfl 1 rfl ?_
    refine go_getr hC (j := 3) (idx := 35) (nm := "points") (ds := "LLampWays$Points;") (b_0 _) rfl rfl hn11 (Nat.le_of_ble_eq_true rfl) rfl rfl (List.mem_cons_of_mem _ (List.mem_append_left _ (List.mem_append_left _ (List.mem_append_left _ (List.mem_append_left _ (List.mem_append_left _ (List.mem_append_left _ (List.mem_append_left _ (List.mem_of_getElem? (i := 1) rfl))))))))) (Or.inl rfl) dX11_tooMuch_18 ?_
    obtain ⟨r_5, hc, hf⟩ := bd_e1 hf
    refine vc_X11_tooMuch_21 hC z_4.1 z_4.2.1 z_4.2.2 o_3 hcz_4 h r_5 hoz_4 haz_4 hc (st := []) (Nat.le_of_ble_eq_true rfl) ?_
    refine go_if_eq hC dX11_tooMuch_24 (tgt := 42) (by decide) (fun c_7 => ?_) (fun c_7 => ?_)
    · replace hf := if_t c_7 hf
      refine go_bipush hC dX11_tooMuch_42 k8_m3 ?_
      obtain rfl := so_1 hf
      exact hret _ _ rfl dX11_tooMuch_44
    · replace hf := if_f c_7 hf
      refine go_aload_n hC dX11_tooMuch_27 rfl 0 rfl ?_
      refine go_aload_n hC dX11_tooMuch_28 rfl 1 rfl ?_
      refine go_getr hC (j := 2) (idx := 28) (nm := "plot") (ds := "LLampWays$House;") (b_0 _) rfl rfl hn11 (Nat.le_of_ble_eq_true rfl) rfl rfl (List.mem_cons_of_mem _ (List.mem_append_left _ (List.mem_append_left _ (List.mem_append_left _ (List.mem_append_left _ (List.mem_append_left _ (List.mem_append_left _ (List.mem_append_left _ (List.mem_of_getElem? (i := 0) rfl))))))))) (Or.inl rfl) dX11_tooMuch_29 ?_
      refine go_aload_n hC dX11_tooMuch_32 rfl 1 rfl ?_
      refine go_getr hC (j := 3) (idx := 35) (nm := "points") (ds := "LLampWays$Points;") (b_0 _) rfl rfl hn11 (Nat.le_of_ble_eq_true rfl) rfl rfl (List.mem_cons_of_mem _ (List.mem_append_left _ (List.mem_append_left _ (List.mem_append_left _ (List.mem_append_left _ (List.mem_append_left _ (List.mem_append_left _ (List.mem_append_left _ (List.mem_of_getElem? (i := 1) rfl))))))))) (Or.inl rfl) dX11_tooMuch_33 ?_
      obtain ⟨r_6, hc, hf⟩ := bd_e1 hf
      refine vc_X11_tooMuch_36 hC z_4.1 z_4.2.1 z_4.2.2 o_3 hcz_4 h r_6 hoz_4 haz_4 hc (st := []) (Nat.le_of_ble_eq_true rfl) ?_
      refine go_goto hC dX11_tooMuch_39 (tgt := 44) (by decide) ?_
      obtain rfl := so_1 hf
      exact hret _ _ rfl dX11_tooMuch_44
def f_X11_isSetOfPoints (x1 : Int32) (h : PH) : Option (Int32) :=
  bd_1 (f_X6_all h) fun r_1 =>
  if (x1 &&& (r_1 ^^^ (-1))) = 0 then (
  some 1)
  else (
  some 0)
theorem e_X11_isSetOfPoints : yX11_isSetOfPoints.cls = RX11 ∧ yX11_isSetOfPoints.cls ≠ "java/lang/invoke/MethodHandle" ∧ yX11_isSetOfPoints.cls ≠ "java/lang/invoke/VarHandle" ∧ (parseMethodDescriptor yX11_isSetOfPoints.desc).map (fun d => d.parameters.length) = some 1 := by decide +kernel
set_option maxRecDepth 100000 in
set_option maxHeartbeats 4000000 in
theorem c_X11_isSetOfPoints (x1 : Int32) (h : PH) (r : Int32) (hf : f_X11_isSetOfPoints x1 h = some r) : Con yX11_isSetOfPoints wsX11_isSetOfPoints (rm_d 1) l0_B [.ref 0, .int x1] h (some (.int r)) h := by
  have hn11 : ∀ w ∈ wsX110, w ∈ wsX11_isSetOfPoints := (fun _ hw => (List.mem_cons_of_mem _ (List.mem_append_left _ (List.mem_append_right _ hw))))
  refine con_i (ty := .boolean) (cc := cX11_isSetOfPoints) (nL := 2) (by decide) rfl (Nat.le_of_ble_eq_true rfl) ?_
  intro C hC hret
  change Go l0_B C 0 0 0 [(0, .ref 0), (1, .int x1)] [] h
  unfold f_X11_isSetOfPoints at hf
  refine go_iload_n hC dX11_isSetOfPoints_0 rfl 1 rfl ?_
  refine go_aload_n hC dX11_isSetOfPoints_1 rfl 0 rfl ?_
  refine go_getr hC (j := 3) (idx := 35) (nm := "points") (ds := "LLampWays$Points;") (b_0 _) rfl rfl hn11 (Nat.le_of_ble_eq_true rfl) rfl rfl (List.mem_cons_of_mem _ (List.mem_append_left _ (List.mem_append_left _ (List.mem_of_getElem? (i := 0) rfl)))) (Or.inl rfl) dX11_isSetOfPoints_2 ?_
  obtain ⟨r_1, hc, hf⟩ := bd_e1 hf
  refine go_callV hC (c_X6_all h r_1 hc) gX11_isSetOfPoints_X6_all rfl ⟨rfl, rfl⟩ 0 e_X6_all ⟨Nat.le_of_ble_eq_true rfl, Nat.le_of_ble_eq_true rfl⟩ (b_17 _) rfl rfl (st := [.int x1]) (st1 := [.int r_1, .int x1]) rfl rfl (Nat.le_of_ble_eq_true rfl) ⟨Nat.zero_le _, Nat.zero_le _⟩ dX11_isSetOfPoints_5 ?_
  refine go_iconst hC dX11_isSetOfPoints_8 k1_m1 ?_
  refine go_ixor hC dX11_isSetOfPoints_9 ?_
  refine go_iand hC dX11_isSetOfPoints_10 ?_
  refine go_if_ne hC dX11_isSetOfPoints_11 (tgt := 18) (by decide) (fun c_2 => ?_) (fun c_2 => ?_)
  · replace hf := if_f c_2 hf
    refine go_iconst hC dX11_isSetOfPoints_18 k1_0 ?_
    obtain rfl := so_1 hf
    exact hret _ _ (zo_n (Or.inl rfl)) dX11_isSetOfPoints_19
  · replace hf := if_t c_2 hf
    refine go_iconst hC dX11_isSetOfPoints_14 k1_1 ?_
    refine go_goto hC dX11_isSetOfPoints_15 (tgt := 19) (by decide) ?_
    obtain rfl := so_1 hf
    exact hret _ _ (zo_n (Or.inr rfl)) dX11_isSetOfPoints_19
def f_X11_reckonOrders (x1 : Int32) (x2 : Int32) (h : PH) : Option (Unit × PH) :=
  bd_2 (f_X0_measure h) fun r_1 h_2 =>
  bd_2 (f_X0_startFrom (h_2.1 10 1) h_2) fun r_3 h_4 =>
  if x2 = 1 then (
  bd_2 (f_X0_reckonRests x1 1 h_4) fun r_7 h_8 =>
  some ((), h_8))
  else (
  bd_2 (f_X0_reckonRests x1 0 h_4) fun r_5 h_6 =>
  some ((), h_6))
theorem e_X11_reckonOrders : yX11_reckonOrders.cls = RX11 ∧ yX11_reckonOrders.cls ≠ "java/lang/invoke/MethodHandle" ∧ yX11_reckonOrders.cls ≠ "java/lang/invoke/VarHandle" ∧ (parseMethodDescriptor yX11_reckonOrders.desc).map (fun d => d.parameters.length) = some 2 := by decide +kernel
set_option maxRecDepth 100000 in
set_option maxHeartbeats 4000000 in
theorem c_X11_reckonOrders (x1 : Int32) (x2 : Int32) (h : PH) (h2 : PH) (hf : f_X11_reckonOrders x1 x2 h = some ((), h2)) : Con yX11_reckonOrders wsX11_reckonOrders (rm_d 4) l0_B [.ref 0, .int x1, .int x2] h none h2 := by
  have hn11 : ∀ w ∈ wsX110, w ∈ wsX11_reckonOrders := (fun _ hw => (List.mem_cons_of_mem _ (List.mem_append_left _ (List.mem_append_left _ (List.mem_append_left _ (List.mem_append_right _ hw))))))
  have hn3 : ∀ w ∈ wsX30, w ∈ wsX11_reckonOrders := (fun _ hw => (List.mem_cons_of_mem _ (List.mem_append_left _ (List.mem_append_left _ (List.mem_append_right _ hw)))))
  refine con_v (cc := cX11_reckonOrders) (nL := 3) (by decide) rfl (Nat.le_of_ble_eq_true rfl) ?_
  intro C hC hret
  change Go l0_B C 0 0 0 [(0, .ref 0), (1, .int x1), (2, .int x2)] [] h
  unfold f_X11_reckonOrders at hf
  refine go_aload_n hC dX11_reckonOrders_0 rfl 0 rfl ?_
  refine go_getr hC (j := 6) (idx := 48) (nm := "cables") (ds := "LLampWays$Cables;") (b_0 _) rfl rfl hn11 (Nat.le_of_ble_eq_true rfl) rfl rfl (List.mem_cons_of_mem _ (List.mem_append_left _ (List.mem_append_left _ (List.mem_append_left _ (List.mem_append_left _ (List.mem_append_left _ (List.mem_of_getElem? (i := 0) rfl))))))) (Or.inl rfl) dX11_reckonOrders_1 ?_
  refine go_aload_n hC dX11_reckonOrders_4 rfl 0 rfl ?_
  refine go_getr hC (j := 2) (idx := 28) (nm := "plot") (ds := "LLampWays$House;") (b_0 _) rfl rfl hn11 (Nat.le_of_ble_eq_true rfl) rfl rfl (List.mem_cons_of_mem _ (List.mem_append_left _ (List.mem_append_left _ (List.mem_append_left _ (List.mem_append_left _ (List.mem_append_left _ (List.mem_of_getElem? (i := 1) rfl))))))) (Or.inl rfl) dX11_reckonOrders_5 ?_
  refine go_aload_n hC dX11_reckonOrders_8 rfl 0 rfl ?_
  refine go_getr hC (j := 3) (idx := 35) (nm := "points") (ds := "LLampWays$Points;") (b_0 _) rfl rfl hn11 (Nat.le_of_ble_eq_true rfl) rfl rfl (List.mem_cons_of_mem _ (List.mem_append_left _ (List.mem_append_left _ (List.mem_append_left _ (List.mem_append_left _ (List.mem_append_left _ (List.mem_of_getElem? (i := 2) rfl))))))) (Or.inl rfl) dX11_reckonOrders_9 ?_
  obtain ⟨r_1, h_2, hc, hf⟩ := bd_e2 hf
  refine go_callV hC (c_X0_measure h h_2 hc) gX11_reckonOrders_X0_measure rfl ⟨rfl, rfl⟩ 2 e_X0_measure ⟨Nat.le_of_ble_eq_true rfl, Nat.le_of_ble_eq_true rfl⟩ (b_23 _) rfl rfl (st := []) (st1 := []) rfl rfl (Nat.le_of_ble_eq_true rfl) ⟨Nat.zero_le _, Nat.zero_le _⟩ dX11_reckonOrders_12 ?_
  refine go_aload_n hC dX11_reckonOrders_15 rfl 0 rfl ?_
  refine go_getr hC (j := 6) (idx := 48) (nm := "cables") (ds := "LLampWays$Cables;") (b_0 _) rfl rfl hn11 (Nat.le_of_ble_eq_true rfl) rfl rfl (List.mem_cons_of_mem _ (List.mem_append_left _ (List.mem_append_left _ (List.mem_append_left _ (List.mem_append_left _ (List.mem_append_left _ (List.mem_of_getElem? (i := 0) rfl))))))) (Or.inl rfl) dX11_reckonOrders_16 ?_
  refine go_aload_n hC dX11_reckonOrders_19 rfl 0 rfl ?_
  refine go_getr hC (j := 2) (idx := 28) (nm := "plot") (ds := "LLampWays$House;") (b_0 _) rfl rfl hn11 (Nat.le_of_ble_eq_true rfl) rfl rfl (List.mem_cons_of_mem _ (List.mem_append_left _ (List.mem_append_left _ (List.mem_append_left _ (List.mem_append_left _ (List.mem_append_left _ (List.mem_of_getElem? (i := 1) rfl))))))) (Or.inl rfl) dX11_reckonOrders_20 ?_
  refine go_aload_n hC dX11_reckonOrders_23 rfl 0 rfl ?_
  refine go_getr hC (j := 3) (idx := 35) (nm := "points") (ds := "LLampWays$Points;") (b_0 _) rfl rfl hn11 (Nat.le_of_ble_eq_true rfl) rfl rfl (List.mem_cons_of_mem _ (List.mem_append_left _ (List.mem_append_left _ (List.mem_append_left _ (List.mem_append_left _ (List.mem_append_left _ (List.mem_of_getElem? (i := 2) rfl))))))) (Or.inl rfl) dX11_reckonOrders_24 ?_
  refine go_aload_n hC dX11_reckonOrders_27 rfl 0 rfl ?_
  refine go_getr hC (j := 2) (idx := 28) (nm := "plot") (ds := "LLampWays$House;") (b_0 _) rfl rfl hn11 (Nat.le_of_ble_eq_true rfl) rfl rfl (List.mem_cons_of_mem _ (List.mem_append_left _ (List.mem_append_left _ (List.mem_append_left _ (List.mem_append_left _ (List.mem_append_left _ (List.mem_of_getElem? (i := 1) rfl))))))) (Or.inl rfl) dX11_reckonOrders_28 ?_
  refine go_geti hC (j := 1) (idx := 168) (nm := "boxPlace") (ds := "I") (b_10 _) rfl rfl hn3 (Nat.le_of_ble_eq_true rfl) rfl rfl (List.mem_cons_of_mem _ (List.mem_append_left _ (List.mem_append_left _ (List.mem_append_left _ (List.mem_append_left _ (List.mem_append_left _ (List.mem_of_getElem? (i := 3) rfl))))))) (Or.inl rfl) dX11_reckonOrders_31 ?_
  obtain ⟨r_3, h_4, hc, hf⟩ := bd_e2 hf
  refine go_callV hC (c_X0_startFrom (h_2.1 10 1) h_2 h_4 hc) gX11_reckonOrders_X0_startFrom rfl ⟨rfl, rfl⟩ 3 e_X0_startFrom ⟨Nat.le_of_ble_eq_true rfl, Nat.le_of_ble_eq_true rfl⟩ (b_23 _) rfl rfl (st := []) (st1 := []) rfl rfl (Nat.le_of_ble_eq_true rfl) ⟨Nat.zero_le _, Nat.zero_le _⟩ dX11_reckonOrders_34 ?_
  refine go_aload_n hC dX11_reckonOrders_37 rfl 0 rfl ?_
  refine go_getr hC (j := 6) (idx := 48) (nm := "cables") (ds := "LLampWays$Cables;") (b_0 _) rfl rfl hn11 (Nat.le_of_ble_eq_true rfl) rfl rfl (List.mem_cons_of_mem _ (List.mem_append_left _ (List.mem_append_left _ (List.mem_append_left _ (List.mem_append_left _ (List.mem_append_left _ (List.mem_of_getElem? (i := 0) rfl))))))) (Or.inl rfl) dX11_reckonOrders_38 ?_
  refine go_iload_n hC dX11_reckonOrders_41 rfl 1 rfl ?_
  refine go_iload_n hC dX11_reckonOrders_42 rfl 2 rfl ?_
  refine go_iconst hC dX11_reckonOrders_43 k1_1 ?_
  refine go_icmp_ne hC dX11_reckonOrders_44 (tgt := 51) (by decide) (fun c_9 => ?_) (fun c_9 => ?_)
  · replace hf := if_f c_9 hf
    refine go_iconst hC dX11_reckonOrders_51 k1_0 ?_
    obtain ⟨r_5, h_6, hc, hf⟩ := bd_e2 hf
    refine go_callV hC (c_X0_reckonRests x1 0 h_4 h_6 hc) gX11_reckonOrders_X0_reckonRests rfl ⟨rfl, rfl⟩ 2 e_X0_reckonRests ⟨Nat.le_of_ble_eq_true rfl, Nat.le_of_ble_eq_true rfl⟩ (b_23 _) rfl rfl (st := []) (st1 := []) rfl rfl (Nat.le_of_ble_eq_true rfl) ⟨Nat.zero_le _, Nat.zero_le _⟩ dX11_reckonOrders_52 ?_
    obtain ⟨-, rfl⟩ := so_2 hf
    exact hret _ _ dX11_reckonOrders_55
  · replace hf := if_t c_9 hf
    refine go_iconst hC dX11_reckonOrders_47 k1_1 ?_
    refine go_goto hC dX11_reckonOrders_48 (tgt := 52) (by decide) ?_
    obtain ⟨r_7, h_8, hc, hf⟩ := bd_e2 hf
    refine go_callV hC (c_X0_reckonRests x1 1 h_4 h_8 hc) gX11_reckonOrders_X0_reckonRests rfl ⟨rfl, rfl⟩ 2 e_X0_reckonRests ⟨Nat.le_of_ble_eq_true rfl, Nat.le_of_ble_eq_true rfl⟩ (b_23 _) rfl rfl (st := []) (st1 := []) rfl rfl (Nat.le_of_ble_eq_true rfl) ⟨Nat.zero_le _, Nat.zero_le _⟩ dX11_reckonOrders_52 ?_
    obtain ⟨-, rfl⟩ := so_2 hf
    exact hret _ _ dX11_reckonOrders_55
def f_X11_yardsOrNone (x0 : Int32) (h : PH) : Option (Int32) :=
  if x0 < 1000000 then (
  some x0)
  else (
  some (-9))
theorem e_X11_yardsOrNone : yX11_yardsOrNone.cls ≠ "java/lang/invoke/MethodHandle" ∧ yX11_yardsOrNone.cls ≠ "java/lang/invoke/VarHandle" ∧ (parseMethodDescriptor yX11_yardsOrNone.desc).map (fun d => d.parameters.length) = some 1 := by decide +kernel
set_option maxRecDepth 100000 in
set_option maxHeartbeats 4000000 in
theorem c_X11_yardsOrNone (x0 : Int32) (h : PH) (r : Int32) (hf : f_X11_yardsOrNone x0 h = some r) : Con yX11_yardsOrNone wsX11_yardsOrNone (rm_d 0) l0_B [.int x0] h (some (.int r)) h := by

  refine con_i (ty := .int) (cc := cX11_yardsOrNone) (nL := 1) (by decide) rfl (Nat.le_of_ble_eq_true rfl) ?_
  intro C hC hret
  change Go l0_B C 0 0 0 [(0, .int x0)] [] h
  unfold f_X11_yardsOrNone at hf
  refine go_iload_n hC dX11_yardsOrNone_0 rfl 0 rfl ?_
  refine go_ldcw hC (v := 1000000) (List.mem_cons_of_mem _ (List.mem_of_getElem? (i := 0) rfl)) dX11_yardsOrNone_1 ?_
  refine go_icmp_lt hC dX11_yardsOrNone_4 (tgt := 12) (by decide) (fun c_1 => ?_) (fun c_1 => ?_)
  · replace hf := if_t c_1 hf
    refine go_iload_n hC dX11_yardsOrNone_12 rfl 0 rfl ?_
    obtain rfl := so_1 hf
    exact hret _ _ rfl dX11_yardsOrNone_13
  · replace hf := if_f c_1 hf
    refine go_bipush hC dX11_yardsOrNone_7 k8_m9 ?_
    refine go_goto hC dX11_yardsOrNone_9 (tgt := 13) (by decide) ?_
    obtain rfl := so_1 hf
    exact hret _ _ rfl dX11_yardsOrNone_13
def f_X11_least (x1 : Int32) (x2 : Int32) (h : PH) : Option (Int32 × PH) :=
  bd_1 (f_X11_isSetOfPoints x1 h) fun r_1 =>
  if r_1 = 0 then (
  some ((-2), h))
  else (
  if x1 = 0 then (
  some ((-2), h))
  else (
  if x2 < 0 then (
  some ((-2), h))
  else (
  if x2 ≤ 1 then (
  bd_2 (f_X11_reckonOrders x1 x2 h) fun r_2 h_3 =>
  bd_1 (f_X0_leastFromBox x1 h_3) fun r_4 =>
  bd_1 (f_X11_yardsOrNone r_4 h_3) fun r_5 =>
  some (r_5, h_3))
  else (
  some ((-2), h)))))
theorem e_X11_least : yX11_least.cls = RX11 ∧ yX11_least.cls ≠ "java/lang/invoke/MethodHandle" ∧ yX11_least.cls ≠ "java/lang/invoke/VarHandle" ∧ (parseMethodDescriptor yX11_least.desc).map (fun d => d.parameters.length) = some 2 := by decide +kernel
set_option maxRecDepth 100000 in
set_option maxHeartbeats 4000000 in
theorem c_X11_least (x1 : Int32) (x2 : Int32) (h : PH) (h2 : PH) (r : Int32) (hf : f_X11_least x1 x2 h = some (r, h2)) : Con yX11_least wsX11_least (rm_d 5) l0_B [.ref 0, .int x1, .int x2] h (some (.int r)) h2 := by
  have hn11 : ∀ w ∈ wsX110, w ∈ wsX11_least := (fun _ hw => (List.mem_cons_of_mem _ (List.mem_append_left _ (List.mem_append_left _ (List.mem_append_left _ (List.mem_append_right _ hw))))))
  refine con_i (ty := .int) (cc := cX11_least) (nL := 3) (by decide) rfl (Nat.le_of_ble_eq_true rfl) ?_
  intro C hC hret
  change Go l0_B C 0 0 0 [(0, .ref 0), (1, .int x1), (2, .int x2)] [] h
  unfold f_X11_least at hf
  refine go_aload_n hC dX11_least_0 rfl 0 rfl ?_
  refine go_iload_n hC dX11_least_1 rfl 1 rfl ?_
  obtain ⟨r_1, hc, hf⟩ := bd_e1 hf
  refine go_callV hC (c_X11_isSetOfPoints x1 h r_1 hc) gX11_least_X11_isSetOfPoints rfl ⟨rfl, rfl⟩ 1 e_X11_isSetOfPoints ⟨Nat.le_of_ble_eq_true rfl, Nat.le_of_ble_eq_true rfl⟩ (b_0 _) rfl rfl (st := []) (st1 := [.int r_1]) rfl rfl (Nat.le_of_ble_eq_true rfl) ⟨Nat.zero_le _, Nat.zero_le _⟩ dX11_least_2 ?_
  refine go_if_eq hC dX11_least_5 (tgt := 21) (by decide) (fun c_9 => ?_) (fun c_9 => ?_)
  · replace hf := if_t c_9 hf
    refine go_bipush hC dX11_least_21 k8_m2 ?_
    obtain ⟨rfl, rfl⟩ := so_2 hf
    exact hret _ _ rfl dX11_least_23
  · replace hf := if_f c_9 hf
    refine go_iload_n hC dX11_least_8 rfl 1 rfl ?_
    refine go_if_eq hC dX11_least_9 (tgt := 21) (by decide) (fun c_8 => ?_) (fun c_8 => ?_)
    · replace hf := if_t c_8 hf
      refine go_bipush hC dX11_least_21 k8_m2 ?_
      obtain ⟨rfl, rfl⟩ := so_2 hf
      exact hret _ _ rfl dX11_least_23
    · replace hf := if_f c_8 hf
      refine go_iload_n hC dX11_least_12 rfl 2 rfl ?_
      refine go_if_lt hC dX11_least_13 (tgt := 21) (by decide) (fun c_7 => ?_) (fun c_7 => ?_)
      · replace hf := if_t c_7 hf
        refine go_bipush hC dX11_least_21 k8_m2 ?_
        obtain ⟨rfl, rfl⟩ := so_2 hf
        exact hret _ _ rfl dX11_least_23
      · replace hf := if_f c_7 hf
        refine go_iload_n hC dX11_least_16 rfl 2 rfl ?_
        refine go_iconst hC dX11_least_17 k1_1 ?_
        refine go_icmp_le hC dX11_least_18 (tgt := 24) (by decide) (fun c_6 => ?_) (fun c_6 => ?_)
        · replace hf := if_t c_6 hf
          refine go_aload_n hC dX11_least_24 rfl 0 rfl ?_
          refine go_iload_n hC dX11_least_25 rfl 1 rfl ?_
          refine go_iload_n hC dX11_least_26 rfl 2 rfl ?_
          obtain ⟨r_2, h_3, hc, hf⟩ := bd_e2 hf
          refine go_callV hC (c_X11_reckonOrders x1 x2 h h_3 hc) gX11_least_X11_reckonOrders rfl ⟨rfl, rfl⟩ 2 e_X11_reckonOrders ⟨Nat.le_of_ble_eq_true rfl, Nat.le_of_ble_eq_true rfl⟩ (b_0 _) rfl rfl (st := []) (st1 := []) rfl rfl (Nat.le_of_ble_eq_true rfl) ⟨Nat.zero_le _, Nat.zero_le _⟩ dX11_least_27 ?_
          refine go_aload_n hC dX11_least_30 rfl 0 rfl ?_
          refine go_getr hC (j := 6) (idx := 48) (nm := "cables") (ds := "LLampWays$Cables;") (b_0 _) rfl rfl hn11 (Nat.le_of_ble_eq_true rfl) rfl rfl (List.mem_cons_of_mem _ (List.mem_append_left _ (List.mem_append_left _ (List.mem_append_left _ (List.mem_append_left _ (List.mem_append_left _ (List.mem_of_getElem? (i := 0) rfl))))))) (Or.inl rfl) dX11_least_31 ?_
          refine go_iload_n hC dX11_least_34 rfl 1 rfl ?_
          obtain ⟨r_4, hc, hf⟩ := bd_e1 hf
          refine go_callV hC (c_X0_leastFromBox x1 h_3 r_4 hc) gX11_least_X0_leastFromBox rfl ⟨rfl, rfl⟩ 1 e_X0_leastFromBox ⟨Nat.le_of_ble_eq_true rfl, Nat.le_of_ble_eq_true rfl⟩ (b_23 _) rfl rfl (st := []) (st1 := [.int r_4]) rfl rfl (Nat.le_of_ble_eq_true rfl) ⟨Nat.zero_le _, Nat.zero_le _⟩ dX11_least_35 ?_
          obtain ⟨r_5, hc, hf⟩ := bd_e1 hf
          refine go_callS hC (c_X11_yardsOrNone r_4 h_3 r_5 hc) gX11_least_X11_yardsOrNone rfl ⟨rfl, rfl⟩ 1 e_X11_yardsOrNone ⟨Nat.le_of_ble_eq_true rfl, Nat.le_of_ble_eq_true rfl⟩ rfl (st := []) (st1 := [.int r_5]) rfl rfl (Nat.le_of_ble_eq_true rfl) ⟨Nat.zero_le _, Nat.zero_le _⟩ dX11_least_38 ?_
          obtain ⟨rfl, rfl⟩ := so_2 hf
          exact hret _ _ rfl dX11_least_41
        · replace hf := if_f c_6 hf
          refine go_bipush hC dX11_least_21 k8_m2 ?_
          obtain ⟨rfl, rfl⟩ := so_2 hf
          exact hret _ _ rfl dX11_least_23
def f_X11_order (x1 : Int32) (x2 : Int32) (x3 : Int32) (h : PH) : Option (Int32 × PH) :=
  bd_1 (f_X11_isSetOfPoints x1 h) fun r_1 =>
  if r_1 = 0 then (
  some ((-2), h))
  else (
  if x1 = 0 then (
  some ((-2), h))
  else (
  if x2 < 0 then (
  some ((-2), h))
  else (
  if x2 ≤ 1 then (
  if x3 < 0 then (
  some ((-1), h))
  else (
  if x3 < 8 then (
  bd_2 (f_X11_reckonOrders x1 x2 h) fun r_2 h_3 =>
  bd_1 (f_X0_leastFromBox x1 h_3) fun r_4 =>
  if r_4 < 1000000 then (
  bd_1 (f_X0_stopOfOrder x1 x3 h_3) fun r_5 =>
  some (r_5, h_3))
  else (
  some ((-9), h_3)))
  else (
  some ((-1), h))))
  else (
  some ((-2), h)))))
theorem e_X11_order : yX11_order.cls = RX11 ∧ yX11_order.cls ≠ "java/lang/invoke/MethodHandle" ∧ yX11_order.cls ≠ "java/lang/invoke/VarHandle" ∧ (parseMethodDescriptor yX11_order.desc).map (fun d => d.parameters.length) = some 3 := by decide +kernel
set_option maxRecDepth 100000 in
set_option maxHeartbeats 4000000 in
theorem c_X11_order (x1 : Int32) (x2 : Int32) (x3 : Int32) (h : PH) (h2 : PH) (r : Int32) (hf : f_X11_order x1 x2 x3 h = some (r, h2)) : Con yX11_order wsX11_order (rm_d 5) l0_B [.ref 0, .int x1, .int x2, .int x3] h (some (.int r)) h2 := by
  have hn11 : ∀ w ∈ wsX110, w ∈ wsX11_order := (fun _ hw => (List.mem_cons_of_mem _ (List.mem_append_left _ (List.mem_append_left _ (List.mem_append_left _ (List.mem_append_right _ hw))))))
  refine con_i (ty := .int) (cc := cX11_order) (nL := 4) (by decide) rfl (Nat.le_of_ble_eq_true rfl) ?_
  intro C hC hret
  change Go l0_B C 0 0 0 [(0, .ref 0), (1, .int x1), (2, .int x2), (3, .int x3)] [] h
  unfold f_X11_order at hf
  refine go_aload_n hC dX11_order_0 rfl 0 rfl ?_
  refine go_iload_n hC dX11_order_1 rfl 1 rfl ?_
  obtain ⟨r_1, hc, hf⟩ := bd_e1 hf
  refine go_callV hC (c_X11_isSetOfPoints x1 h r_1 hc) gX11_order_X11_isSetOfPoints rfl ⟨rfl, rfl⟩ 1 e_X11_isSetOfPoints ⟨Nat.le_of_ble_eq_true rfl, Nat.le_of_ble_eq_true rfl⟩ (b_0 _) rfl rfl (st := []) (st1 := [.int r_1]) rfl rfl (Nat.le_of_ble_eq_true rfl) ⟨Nat.zero_le _, Nat.zero_le _⟩ dX11_order_2 ?_
  refine go_if_eq hC dX11_order_5 (tgt := 21) (by decide) (fun c_12 => ?_) (fun c_12 => ?_)
  · replace hf := if_t c_12 hf
    refine go_bipush hC dX11_order_21 k8_m2 ?_
    obtain ⟨rfl, rfl⟩ := so_2 hf
    exact hret _ _ rfl dX11_order_23
  · replace hf := if_f c_12 hf
    refine go_iload_n hC dX11_order_8 rfl 1 rfl ?_
    refine go_if_eq hC dX11_order_9 (tgt := 21) (by decide) (fun c_11 => ?_) (fun c_11 => ?_)
    · replace hf := if_t c_11 hf
      refine go_bipush hC dX11_order_21 k8_m2 ?_
      obtain ⟨rfl, rfl⟩ := so_2 hf
      exact hret _ _ rfl dX11_order_23
    · replace hf := if_f c_11 hf
      refine go_iload_n hC dX11_order_12 rfl 2 rfl ?_
      refine go_if_lt hC dX11_order_13 (tgt := 21) (by decide) (fun c_10 => ?_) (fun c_10 => ?_)
      · replace hf := if_t c_10 hf
        refine go_bipush hC dX11_order_21 k8_m2 ?_
        obtain ⟨rfl, rfl⟩ := so_2 hf
        exact hret _ _ rfl dX11_order_23
      · replace hf := if_f c_10 hf
        refine go_iload_n hC dX11_order_16 rfl 2 rfl ?_
        refine go_iconst hC dX11_order_17 k1_1 ?_
        refine go_icmp_le hC dX11_order_18 (tgt := 24) (by decide) (fun c_9 => ?_) (fun c_9 => ?_)
        · replace hf := if_t c_9 hf
          refine go_iload_n hC dX11_order_24 rfl 3 rfl ?_
          refine go_if_lt hC dX11_order_25 (tgt := 34) (by decide) (fun c_8 => ?_) (fun c_8 => ?_)
          · replace hf := if_t c_8 hf
            refine go_iconst hC dX11_order_34 k1_m1 ?_
            obtain ⟨rfl, rfl⟩ := so_2 hf
            exact hret _ _ rfl dX11_order_35
          · replace hf := if_f c_8 hf
            refine go_iload_n hC dX11_order_28 rfl 3 rfl ?_
            refine go_bipush hC dX11_order_29 k8_8 ?_
            refine go_icmp_lt hC dX11_order_31 (tgt := 36) (by decide) (fun c_7 => ?_) (fun c_7 => ?_)
            · replace hf := if_t c_7 hf
              refine go_aload_n hC dX11_order_36 rfl 0 rfl ?_
              refine go_iload_n hC dX11_order_37 rfl 1 rfl ?_
              refine go_iload_n hC dX11_order_38 rfl 2 rfl ?_
              obtain ⟨r_2, h_3, hc, hf⟩ := bd_e2 hf
              refine go_callV hC (c_X11_reckonOrders x1 x2 h h_3 hc) gX11_order_X11_reckonOrders rfl ⟨rfl, rfl⟩ 2 e_X11_reckonOrders ⟨Nat.le_of_ble_eq_true rfl, Nat.le_of_ble_eq_true rfl⟩ (b_0 _) rfl rfl (st := []) (st1 := []) rfl rfl (Nat.le_of_ble_eq_true rfl) ⟨Nat.zero_le _, Nat.zero_le _⟩ dX11_order_39 ?_
              refine go_aload_n hC dX11_order_42 rfl 0 rfl ?_
              refine go_getr hC (j := 6) (idx := 48) (nm := "cables") (ds := "LLampWays$Cables;") (b_0 _) rfl rfl hn11 (Nat.le_of_ble_eq_true rfl) rfl rfl (List.mem_cons_of_mem _ (List.mem_append_left _ (List.mem_append_left _ (List.mem_append_left _ (List.mem_append_left _ (List.mem_append_left _ (List.mem_of_getElem? (i := 0) rfl))))))) (Or.inl rfl) dX11_order_43 ?_
              refine go_iload_n hC dX11_order_46 rfl 1 rfl ?_
              obtain ⟨r_4, hc, hf⟩ := bd_e1 hf
              refine go_callV hC (c_X0_leastFromBox x1 h_3 r_4 hc) gX11_order_X0_leastFromBox rfl ⟨rfl, rfl⟩ 1 e_X0_leastFromBox ⟨Nat.le_of_ble_eq_true rfl, Nat.le_of_ble_eq_true rfl⟩ (b_23 _) rfl rfl (st := []) (st1 := [.int r_4]) rfl rfl (Nat.le_of_ble_eq_true rfl) ⟨Nat.zero_le _, Nat.zero_le _⟩ dX11_order_47 ?_
              refine go_ldcw hC (v := 1000000) (List.mem_cons_of_mem _ (List.mem_append_left _ (List.mem_append_left _ (List.mem_append_left _ (List.mem_append_left _ (List.mem_append_left _ (List.mem_of_getElem? (i := 1) rfl))))))) dX11_order_50 ?_
              refine go_icmp_lt hC dX11_order_53 (tgt := 61) (by decide) (fun c_6 => ?_) (fun c_6 => ?_)
              · replace hf := if_t c_6 hf
                refine go_aload_n hC dX11_order_61 rfl 0 rfl ?_
                refine go_getr hC (j := 6) (idx := 48) (nm := "cables") (ds := "LLampWays$Cables;") (b_0 _) rfl rfl hn11 (Nat.le_of_ble_eq_true rfl) rfl rfl (List.mem_cons_of_mem _ (List.mem_append_left _ (List.mem_append_left _ (List.mem_append_left _ (List.mem_append_left _ (List.mem_append_left _ (List.mem_of_getElem? (i := 0) rfl))))))) (Or.inl rfl) dX11_order_62 ?_
                refine go_iload_n hC dX11_order_65 rfl 1 rfl ?_
                refine go_iload_n hC dX11_order_66 rfl 3 rfl ?_
                obtain ⟨r_5, hc, hf⟩ := bd_e1 hf
                refine go_callV hC (c_X0_stopOfOrder x1 x3 h_3 r_5 hc) gX11_order_X0_stopOfOrder rfl ⟨rfl, rfl⟩ 2 e_X0_stopOfOrder ⟨Nat.le_of_ble_eq_true rfl, Nat.le_of_ble_eq_true rfl⟩ (b_23 _) rfl rfl (st := []) (st1 := [.int r_5]) rfl rfl (Nat.le_of_ble_eq_true rfl) ⟨Nat.zero_le _, Nat.zero_le _⟩ dX11_order_67 ?_
                obtain ⟨rfl, rfl⟩ := so_2 hf
                exact hret _ _ rfl dX11_order_70
              · replace hf := if_f c_6 hf
                refine go_bipush hC dX11_order_56 k8_m9 ?_
                refine go_goto hC dX11_order_58 (tgt := 70) (by decide) ?_
                obtain ⟨rfl, rfl⟩ := so_2 hf
                exact hret _ _ rfl dX11_order_70
            · replace hf := if_f c_7 hf
              refine go_iconst hC dX11_order_34 k1_m1 ?_
              obtain ⟨rfl, rfl⟩ := so_2 hf
              exact hret _ _ rfl dX11_order_35
        · replace hf := if_f c_9 hf
          refine go_bipush hC dX11_order_21 k8_m2 ?_
          obtain ⟨rfl, rfl⟩ := so_2 hf
          exact hret _ _ rfl dX11_order_23
def f_X11_isPlanAsked (x0 : Int32) (x1 : Int32) (h : PH) : Option (Int32) :=
  if x0 < 1 then (
  some 0)
  else (
  if 3 < x0 then (
  some 0)
  else (
  if x1 < 1 then (
  some 0)
  else (
  if 99 < x1 then (
  some 0)
  else (
  some 1))))
theorem e_X11_isPlanAsked : yX11_isPlanAsked.cls ≠ "java/lang/invoke/MethodHandle" ∧ yX11_isPlanAsked.cls ≠ "java/lang/invoke/VarHandle" ∧ (parseMethodDescriptor yX11_isPlanAsked.desc).map (fun d => d.parameters.length) = some 2 := by decide +kernel
set_option maxRecDepth 100000 in
set_option maxHeartbeats 4000000 in
theorem c_X11_isPlanAsked (x0 : Int32) (x1 : Int32) (h : PH) (r : Int32) (hf : f_X11_isPlanAsked x0 x1 h = some r) : Con yX11_isPlanAsked wsX11_isPlanAsked (rm_d 0) l0_B [.int x0, .int x1] h (some (.int r)) h := by

  refine con_i (ty := .boolean) (cc := cX11_isPlanAsked) (nL := 2) (by decide) rfl (Nat.le_of_ble_eq_true rfl) ?_
  intro C hC hret
  change Go l0_B C 0 0 0 [(0, .int x0), (1, .int x1)] [] h
  unfold f_X11_isPlanAsked at hf
  refine go_iload_n hC dX11_isPlanAsked_0 rfl 0 rfl ?_
  refine go_iconst hC dX11_isPlanAsked_1 k1_1 ?_
  refine go_icmp_lt hC dX11_isPlanAsked_2 (tgt := 25) (by decide) (fun c_4 => ?_) (fun c_4 => ?_)
  · replace hf := if_t c_4 hf
    refine go_iconst hC dX11_isPlanAsked_25 k1_0 ?_
    obtain rfl := so_1 hf
    exact hret _ _ (zo_n (Or.inl rfl)) dX11_isPlanAsked_26
  · replace hf := if_f c_4 hf
    refine go_iload_n hC dX11_isPlanAsked_5 rfl 0 rfl ?_
    refine go_iconst hC dX11_isPlanAsked_6 k1_3 ?_
    refine go_icmp_gt hC dX11_isPlanAsked_7 (tgt := 25) (by decide) (fun c_3 => ?_) (fun c_3 => ?_)
    · replace hf := if_t c_3 hf
      refine go_iconst hC dX11_isPlanAsked_25 k1_0 ?_
      obtain rfl := so_1 hf
      exact hret _ _ (zo_n (Or.inl rfl)) dX11_isPlanAsked_26
    · replace hf := if_f c_3 hf
      refine go_iload_n hC dX11_isPlanAsked_10 rfl 1 rfl ?_
      refine go_iconst hC dX11_isPlanAsked_11 k1_1 ?_
      refine go_icmp_lt hC dX11_isPlanAsked_12 (tgt := 25) (by decide) (fun c_2 => ?_) (fun c_2 => ?_)
      · replace hf := if_t c_2 hf
        refine go_iconst hC dX11_isPlanAsked_25 k1_0 ?_
        obtain rfl := so_1 hf
        exact hret _ _ (zo_n (Or.inl rfl)) dX11_isPlanAsked_26
      · replace hf := if_f c_2 hf
        refine go_iload_n hC dX11_isPlanAsked_15 rfl 1 rfl ?_
        refine go_bipush hC dX11_isPlanAsked_16 k8_99 ?_
        refine go_icmp_gt hC dX11_isPlanAsked_18 (tgt := 25) (by decide) (fun c_1 => ?_) (fun c_1 => ?_)
        · replace hf := if_t c_1 hf
          refine go_iconst hC dX11_isPlanAsked_25 k1_0 ?_
          obtain rfl := so_1 hf
          exact hret _ _ (zo_n (Or.inl rfl)) dX11_isPlanAsked_26
        · replace hf := if_f c_1 hf
          refine go_iconst hC dX11_isPlanAsked_21 k1_1 ?_
          refine go_goto hC dX11_isPlanAsked_22 (tgt := 26) (by decide) ?_
          obtain rfl := so_1 hf
          exact hret _ _ (zo_n (Or.inr rfl)) dX11_isPlanAsked_26
def f_X11_plannedYardsFrom (x1 : Int32) (x2 : Int32) (x3 : Int32) (x4 : Int32) (h : PH) : Option (Int32 × PH) :=
  bd_2 (f_X0_startFrom x1 h) fun r_1 h_2 =>
  bd_1 (f_X6_all h_2) fun r_3 =>
  bd_2 (f_X0_reckonSets r_3 h_2) fun r_4 h_5 =>
  bd_2 (f_X5_leastYards x2 x3 x4 h_5) fun r_6 h_7 =>
  some (r_6, h_7)
theorem e_X11_plannedYardsFrom : yX11_plannedYardsFrom.cls = RX11 ∧ yX11_plannedYardsFrom.cls ≠ "java/lang/invoke/MethodHandle" ∧ yX11_plannedYardsFrom.cls ≠ "java/lang/invoke/VarHandle" ∧ (parseMethodDescriptor yX11_plannedYardsFrom.desc).map (fun d => d.parameters.length) = some 4 := by decide +kernel
set_option maxRecDepth 100000 in
set_option maxHeartbeats 4000000 in
theorem c_X11_plannedYardsFrom (x1 : Int32) (x2 : Int32) (x3 : Int32) (x4 : Int32) (h : PH) (h2 : PH) (r : Int32) (hf : f_X11_plannedYardsFrom x1 x2 x3 x4 h = some (r, h2)) : Con yX11_plannedYardsFrom wsX11_plannedYardsFrom (rm_d 17) l0_B [.ref 0, .int x1, .int x2, .int x3, .int x4] h (some (.int r)) h2 := by
  have hn11 : ∀ w ∈ wsX110, w ∈ wsX11_plannedYardsFrom := (fun _ hw => (List.mem_cons_of_mem _ (List.mem_append_left _ (List.mem_append_left _ (List.mem_append_left _ (List.mem_append_left _ (List.mem_append_right _ hw)))))))
  have hn5 : ∀ w ∈ wsX50, w ∈ wsX11_plannedYardsFrom := (fun _ hw => (List.mem_cons_of_mem _ (List.mem_append_left _ (List.mem_append_left _ (List.mem_append_left _ (List.mem_append_right _ hw))))))
  refine con_i (ty := .int) (cc := cX11_plannedYardsFrom) (nL := 5) (by decide) rfl (Nat.le_of_ble_eq_true rfl) ?_
  intro C hC hret
  change Go l0_B C 0 0 0 [(0, .ref 0), (1, .int x1), (2, .int x2), (3, .int x3), (4, .int x4)] [] h
  unfold f_X11_plannedYardsFrom at hf
  refine go_aload_n hC dX11_plannedYardsFrom_0 rfl 0 rfl ?_
  refine go_getr hC (j := 6) (idx := 48) (nm := "cables") (ds := "LLampWays$Cables;") (b_0 _) rfl rfl hn11 (Nat.le_of_ble_eq_true rfl) rfl rfl (List.mem_cons_of_mem _ (List.mem_append_left _ (List.mem_append_left _ (List.mem_append_left _ (List.mem_append_left _ (List.mem_append_left _ (List.mem_append_left _ (List.mem_of_getElem? (i := 0) rfl)))))))) (Or.inl rfl) dX11_plannedYardsFrom_1 ?_
  refine go_aload_n hC dX11_plannedYardsFrom_4 rfl 0 rfl ?_
  refine go_getr hC (j := 2) (idx := 28) (nm := "plot") (ds := "LLampWays$House;") (b_0 _) rfl rfl hn11 (Nat.le_of_ble_eq_true rfl) rfl rfl (List.mem_cons_of_mem _ (List.mem_append_left _ (List.mem_append_left _ (List.mem_append_left _ (List.mem_append_left _ (List.mem_append_left _ (List.mem_append_left _ (List.mem_of_getElem? (i := 1) rfl)))))))) (Or.inl rfl) dX11_plannedYardsFrom_5 ?_
  refine go_aload_n hC dX11_plannedYardsFrom_8 rfl 0 rfl ?_
  refine go_getr hC (j := 3) (idx := 35) (nm := "points") (ds := "LLampWays$Points;") (b_0 _) rfl rfl hn11 (Nat.le_of_ble_eq_true rfl) rfl rfl (List.mem_cons_of_mem _ (List.mem_append_left _ (List.mem_append_left _ (List.mem_append_left _ (List.mem_append_left _ (List.mem_append_left _ (List.mem_append_left _ (List.mem_of_getElem? (i := 2) rfl)))))))) (Or.inl rfl) dX11_plannedYardsFrom_9 ?_
  refine go_iload_n hC dX11_plannedYardsFrom_12 rfl 1 rfl ?_
  obtain ⟨r_1, h_2, hc, hf⟩ := bd_e2 hf
  refine go_callV hC (c_X0_startFrom x1 h h_2 hc) gX11_plannedYardsFrom_X0_startFrom rfl ⟨rfl, rfl⟩ 3 e_X0_startFrom ⟨Nat.le_of_ble_eq_true rfl, Nat.le_of_ble_eq_true rfl⟩ (b_23 _) rfl rfl (st := []) (st1 := []) rfl rfl (Nat.le_of_ble_eq_true rfl) ⟨Nat.zero_le _, Nat.zero_le _⟩ dX11_plannedYardsFrom_13 ?_
  refine go_aload_n hC dX11_plannedYardsFrom_16 rfl 0 rfl ?_
  refine go_getr hC (j := 6) (idx := 48) (nm := "cables") (ds := "LLampWays$Cables;") (b_0 _) rfl rfl hn11 (Nat.le_of_ble_eq_true rfl) rfl rfl (List.mem_cons_of_mem _ (List.mem_append_left _ (List.mem_append_left _ (List.mem_append_left _ (List.mem_append_left _ (List.mem_append_left _ (List.mem_append_left _ (List.mem_of_getElem? (i := 0) rfl)))))))) (Or.inl rfl) dX11_plannedYardsFrom_17 ?_
  refine go_aload_n hC dX11_plannedYardsFrom_20 rfl 0 rfl ?_
  refine go_getr hC (j := 3) (idx := 35) (nm := "points") (ds := "LLampWays$Points;") (b_0 _) rfl rfl hn11 (Nat.le_of_ble_eq_true rfl) rfl rfl (List.mem_cons_of_mem _ (List.mem_append_left _ (List.mem_append_left _ (List.mem_append_left _ (List.mem_append_left _ (List.mem_append_left _ (List.mem_append_left _ (List.mem_of_getElem? (i := 2) rfl)))))))) (Or.inl rfl) dX11_plannedYardsFrom_21 ?_
  obtain ⟨r_3, hc, hf⟩ := bd_e1 hf
  refine go_callV hC (c_X6_all h_2 r_3 hc) gX11_plannedYardsFrom_X6_all rfl ⟨rfl, rfl⟩ 0 e_X6_all ⟨Nat.le_of_ble_eq_true rfl, Nat.le_of_ble_eq_true rfl⟩ (b_17 _) rfl rfl (st := [.ref 23]) (st1 := [.int r_3, .ref 23]) rfl rfl (Nat.le_of_ble_eq_true rfl) ⟨Nat.zero_le _, Nat.zero_le _⟩ dX11_plannedYardsFrom_24 ?_
  refine go_aload_n hC dX11_plannedYardsFrom_27 rfl 0 rfl ?_
  refine go_getr hC (j := 7) (idx := 55) (nm := "plans") (ds := "LLampWays$Plans;") (b_0 _) rfl rfl hn11 (Nat.le_of_ble_eq_true rfl) rfl rfl (List.mem_cons_of_mem _ (List.mem_append_left _ (List.mem_append_left _ (List.mem_append_left _ (List.mem_append_left _ (List.mem_append_left _ (List.mem_append_left _ (List.mem_of_getElem? (i := 3) rfl)))))))) (Or.inl rfl) dX11_plannedYardsFrom_28 ?_
  refine go_getr hC (j := 0) (idx := 391) (nm := "yardsOfSets") (ds := "[I") (b_27 _) rfl rfl hn5 (Nat.le_of_ble_eq_true rfl) rfl rfl (List.mem_cons_of_mem _ (List.mem_append_left _ (List.mem_append_left _ (List.mem_append_left _ (List.mem_append_left _ (List.mem_append_left _ (List.mem_append_left _ (List.mem_of_getElem? (i := 4) rfl)))))))) (Or.inl rfl) dX11_plannedYardsFrom_31 ?_
  obtain ⟨r_4, h_5, hc, hf⟩ := bd_e2 hf
  refine go_callV hC (c_X0_reckonSets r_3 h_2 h_5 hc) gX11_plannedYardsFrom_X0_reckonSets rfl ⟨rfl, rfl⟩ 2 e_X0_reckonSets ⟨Nat.le_of_ble_eq_true rfl, Nat.le_of_ble_eq_true rfl⟩ (b_23 _) rfl rfl (st := []) (st1 := []) rfl rfl (Nat.le_of_ble_eq_true rfl) ⟨Nat.zero_le _, Nat.zero_le _⟩ dX11_plannedYardsFrom_34 ?_
  refine go_aload_n hC dX11_plannedYardsFrom_37 rfl 0 rfl ?_
  refine go_getr hC (j := 7) (idx := 55) (nm := "plans") (ds := "LLampWays$Plans;") (b_0 _) rfl rfl hn11 (Nat.le_of_ble_eq_true rfl) rfl rfl (List.mem_cons_of_mem _ (List.mem_append_left _ (List.mem_append_left _ (List.mem_append_left _ (List.mem_append_left _ (List.mem_append_left _ (List.mem_append_left _ (List.mem_of_getElem? (i := 3) rfl)))))))) (Or.inl rfl) dX11_plannedYardsFrom_38 ?_
  refine go_aload_n hC dX11_plannedYardsFrom_41 rfl 0 rfl ?_
  refine go_getr hC (j := 3) (idx := 35) (nm := "points") (ds := "LLampWays$Points;") (b_0 _) rfl rfl hn11 (Nat.le_of_ble_eq_true rfl) rfl rfl (List.mem_cons_of_mem _ (List.mem_append_left _ (List.mem_append_left _ (List.mem_append_left _ (List.mem_append_left _ (List.mem_append_left _ (List.mem_append_left _ (List.mem_of_getElem? (i := 2) rfl)))))))) (Or.inl rfl) dX11_plannedYardsFrom_42 ?_
  refine go_iload_n hC dX11_plannedYardsFrom_45 rfl 2 rfl ?_
  refine go_iload_n hC dX11_plannedYardsFrom_46 rfl 3 rfl ?_
  refine go_iload hC dX11_plannedYardsFrom_47 4 rfl ?_
  obtain ⟨r_6, h_7, hc, hf⟩ := bd_e2 hf
  refine go_callV hC (c_X5_leastYards x2 x3 x4 h_5 h_7 r_6 hc) gX11_plannedYardsFrom_X5_leastYards rfl ⟨rfl, rfl⟩ 4 e_X5_leastYards ⟨Nat.le_of_ble_eq_true rfl, Nat.le_of_ble_eq_true rfl⟩ (b_27 _) rfl rfl (st := []) (st1 := [.int r_6]) rfl rfl (Nat.le_of_ble_eq_true rfl) ⟨Nat.zero_le _, Nat.zero_le _⟩ dX11_plannedYardsFrom_49 ?_
  obtain ⟨rfl, rfl⟩ := so_2 hf
  exact hret _ _ rfl dX11_plannedYardsFrom_52
def f_X11_plannedYards (x1 : Int32) (x2 : Int32) (x3 : Int32) (h : PH) : Option (Int32 × PH) :=
  bd_1 (f_X6_all h) fun r_1 =>
  bd_2 (f_X11_reckonOrders r_1 0 h) fun r_2 h_3 =>
  bd_2 (f_X11_plannedYardsFrom (h_3.1 10 1) x1 x2 x3 h_3) fun r_4 h_5 =>
  some (r_4, h_5)
theorem e_X11_plannedYards : yX11_plannedYards.cls = RX11 ∧ yX11_plannedYards.cls ≠ "java/lang/invoke/MethodHandle" ∧ yX11_plannedYards.cls ≠ "java/lang/invoke/VarHandle" ∧ (parseMethodDescriptor yX11_plannedYards.desc).map (fun d => d.parameters.length) = some 3 := by decide +kernel
set_option maxRecDepth 100000 in
set_option maxHeartbeats 4000000 in
theorem c_X11_plannedYards (x1 : Int32) (x2 : Int32) (x3 : Int32) (h : PH) (h2 : PH) (r : Int32) (hf : f_X11_plannedYards x1 x2 x3 h = some (r, h2)) : Con yX11_plannedYards wsX11_plannedYards (rm_d 18) l0_B [.ref 0, .int x1, .int x2, .int x3] h (some (.int r)) h2 := by
  have hn11 : ∀ w ∈ wsX110, w ∈ wsX11_plannedYards := (fun _ hw => (List.mem_cons_of_mem _ (List.mem_append_left _ (List.mem_append_left _ (List.mem_append_left _ (List.mem_append_left _ (List.mem_append_right _ hw)))))))
  have hn3 : ∀ w ∈ wsX30, w ∈ wsX11_plannedYards := (fun _ hw => (List.mem_cons_of_mem _ (List.mem_append_left _ (List.mem_append_left _ (List.mem_append_left _ (List.mem_append_right _ hw))))))
  refine con_i (ty := .int) (cc := cX11_plannedYards) (nL := 4) (by decide) rfl (Nat.le_of_ble_eq_true rfl) ?_
  intro C hC hret
  change Go l0_B C 0 0 0 [(0, .ref 0), (1, .int x1), (2, .int x2), (3, .int x3)] [] h
  unfold f_X11_plannedYards at hf
  refine go_aload_n hC dX11_plannedYards_0 rfl 0 rfl ?_
  refine go_aload_n hC dX11_plannedYards_1 rfl 0 rfl ?_
  refine go_getr hC (j := 3) (idx := 35) (nm := "points") (ds := "LLampWays$Points;") (b_0 _) rfl rfl hn11 (Nat.le_of_ble_eq_true rfl) rfl rfl (List.mem_cons_of_mem _ (List.mem_append_left _ (List.mem_append_left _ (List.mem_append_left _ (List.mem_append_left _ (List.mem_append_left _ (List.mem_append_left _ (List.mem_of_getElem? (i := 0) rfl)))))))) (Or.inl rfl) dX11_plannedYards_2 ?_
  obtain ⟨r_1, hc, hf⟩ := bd_e1 hf
  refine go_callV hC (c_X6_all h r_1 hc) gX11_plannedYards_X6_all rfl ⟨rfl, rfl⟩ 0 e_X6_all ⟨Nat.le_of_ble_eq_true rfl, Nat.le_of_ble_eq_true rfl⟩ (b_17 _) rfl rfl (st := [.ref 0]) (st1 := [.int r_1, .ref 0]) rfl rfl (Nat.le_of_ble_eq_true rfl) ⟨Nat.zero_le _, Nat.zero_le _⟩ dX11_plannedYards_5 ?_
  refine go_iconst hC dX11_plannedYards_8 k1_0 ?_
  obtain ⟨r_2, h_3, hc, hf⟩ := bd_e2 hf
  refine go_callV hC (c_X11_reckonOrders r_1 0 h h_3 hc) gX11_plannedYards_X11_reckonOrders rfl ⟨rfl, rfl⟩ 2 e_X11_reckonOrders ⟨Nat.le_of_ble_eq_true rfl, Nat.le_of_ble_eq_true rfl⟩ (b_0 _) rfl rfl (st := []) (st1 := []) rfl rfl (Nat.le_of_ble_eq_true rfl) ⟨Nat.zero_le _, Nat.zero_le _⟩ dX11_plannedYards_9 ?_
  refine go_aload_n hC dX11_plannedYards_12 rfl 0 rfl ?_
  refine go_aload_n hC dX11_plannedYards_13 rfl 0 rfl ?_
  refine go_getr hC (j := 2) (idx := 28) (nm := "plot") (ds := "LLampWays$House;") (b_0 _) rfl rfl hn11 (Nat.le_of_ble_eq_true rfl) rfl rfl (List.mem_cons_of_mem _ (List.mem_append_left _ (List.mem_append_left _ (List.mem_append_left _ (List.mem_append_left _ (List.mem_append_left _ (List.mem_append_left _ (List.mem_of_getElem? (i := 1) rfl)))))))) (Or.inl rfl) dX11_plannedYards_14 ?_
  refine go_geti hC (j := 1) (idx := 168) (nm := "boxPlace") (ds := "I") (b_10 _) rfl rfl hn3 (Nat.le_of_ble_eq_true rfl) rfl rfl (List.mem_cons_of_mem _ (List.mem_append_left _ (List.mem_append_left _ (List.mem_append_left _ (List.mem_append_left _ (List.mem_append_left _ (List.mem_append_left _ (List.mem_of_getElem? (i := 2) rfl)))))))) (Or.inl rfl) dX11_plannedYards_17 ?_
  refine go_iload_n hC dX11_plannedYards_20 rfl 1 rfl ?_
  refine go_iload_n hC dX11_plannedYards_21 rfl 2 rfl ?_
  refine go_iload_n hC dX11_plannedYards_22 rfl 3 rfl ?_
  obtain ⟨r_4, h_5, hc, hf⟩ := bd_e2 hf
  refine go_callV hC (c_X11_plannedYardsFrom (h_3.1 10 1) x1 x2 x3 h_3 h_5 r_4 hc) gX11_plannedYards_X11_plannedYardsFrom rfl ⟨rfl, rfl⟩ 4 e_X11_plannedYardsFrom ⟨Nat.le_of_ble_eq_true rfl, Nat.le_of_ble_eq_true rfl⟩ (b_0 _) rfl rfl (st := []) (st1 := [.int r_4]) rfl rfl (Nat.le_of_ble_eq_true rfl) ⟨Nat.zero_le _, Nat.zero_le _⟩ dX11_plannedYards_23 ?_
  obtain ⟨rfl, rfl⟩ := so_2 hf
  exact hret _ _ rfl dX11_plannedYards_26
def f_X11_plan (x1 : Int32) (x2 : Int32) (x3 : Int32) (h : PH) : Option (Int32 × PH) :=
  bd_1 (f_X11_isPlanAsked x1 x2 h) fun r_1 =>
  if r_1 = 0 then (
  some ((-2), h))
  else (
  if (h.1 17 0) = 0 then (
  some ((-3), h))
  else (
  bd_2 (f_X11_plannedYards x1 x2 x3 h) fun r_2 h_3 =>
  bd_1 (f_X11_yardsOrNone r_2 h_3) fun r_4 =>
  some (r_4, h_3)))
theorem e_X11_plan : yX11_plan.cls = RX11 ∧ yX11_plan.cls ≠ "java/lang/invoke/MethodHandle" ∧ yX11_plan.cls ≠ "java/lang/invoke/VarHandle" ∧ (parseMethodDescriptor yX11_plan.desc).map (fun d => d.parameters.length) = some 3 := by decide +kernel
set_option maxRecDepth 100000 in
set_option maxHeartbeats 4000000 in
theorem c_X11_plan (x1 : Int32) (x2 : Int32) (x3 : Int32) (h : PH) (h2 : PH) (r : Int32) (hf : f_X11_plan x1 x2 x3 h = some (r, h2)) : Con yX11_plan wsX11_plan (rm_d 19) l0_B [.ref 0, .int x1, .int x2, .int x3] h (some (.int r)) h2 := by
  have hn11 : ∀ w ∈ wsX110, w ∈ wsX11_plan := (fun _ hw => (List.mem_cons_of_mem _ (List.mem_append_left _ (List.mem_append_left _ (List.mem_append_left _ (List.mem_append_left _ (List.mem_append_right _ hw)))))))
  have hn6 : ∀ w ∈ wsX60, w ∈ wsX11_plan := (fun _ hw => (List.mem_cons_of_mem _ (List.mem_append_left _ (List.mem_append_left _ (List.mem_append_left _ (List.mem_append_right _ hw))))))
  refine con_i (ty := .int) (cc := cX11_plan) (nL := 4) (by decide) rfl (Nat.le_of_ble_eq_true rfl) ?_
  intro C hC hret
  change Go l0_B C 0 0 0 [(0, .ref 0), (1, .int x1), (2, .int x2), (3, .int x3)] [] h
  unfold f_X11_plan at hf
  refine go_iload_n hC dX11_plan_0 rfl 1 rfl ?_
  refine go_iload_n hC dX11_plan_1 rfl 2 rfl ?_
  obtain ⟨r_1, hc, hf⟩ := bd_e1 hf
  refine go_callS hC (c_X11_isPlanAsked x1 x2 h r_1 hc) gX11_plan_X11_isPlanAsked rfl ⟨rfl, rfl⟩ 2 e_X11_isPlanAsked ⟨Nat.le_of_ble_eq_true rfl, Nat.le_of_ble_eq_true rfl⟩ rfl (st := []) (st1 := [.int r_1]) rfl rfl (Nat.le_of_ble_eq_true rfl) ⟨Nat.zero_le _, Nat.zero_le _⟩ dX11_plan_2 ?_
  refine go_if_ne hC dX11_plan_5 (tgt := 11) (by decide) (fun c_6 => ?_) (fun c_6 => ?_)
  · replace hf := if_f c_6 hf
    refine go_aload_n hC dX11_plan_11 rfl 0 rfl ?_
    refine go_getr hC (j := 3) (idx := 35) (nm := "points") (ds := "LLampWays$Points;") (b_0 _) rfl rfl hn11 (Nat.le_of_ble_eq_true rfl) rfl rfl (List.mem_cons_of_mem _ (List.mem_append_left _ (List.mem_append_left _ (List.mem_append_left _ (List.mem_append_left _ (List.mem_append_left _ (List.mem_append_left _ (List.mem_of_getElem? (i := 0) rfl)))))))) (Or.inl rfl) dX11_plan_12 ?_
    refine go_geti hC (j := 0) (idx := 115) (nm := "count") (ds := "I") (b_17 _) rfl rfl hn6 (Nat.le_of_ble_eq_true rfl) rfl rfl (List.mem_cons_of_mem _ (List.mem_append_left _ (List.mem_append_left _ (List.mem_append_left _ (List.mem_append_left _ (List.mem_append_left _ (List.mem_append_left _ (List.mem_of_getElem? (i := 1) rfl)))))))) (Or.inl rfl) dX11_plan_15 ?_
    refine go_if_ne hC dX11_plan_18 (tgt := 24) (by decide) (fun c_5 => ?_) (fun c_5 => ?_)
    · replace hf := if_f c_5 hf
      refine go_aload_n hC dX11_plan_24 rfl 0 rfl ?_
      refine go_iload_n hC dX11_plan_25 rfl 1 rfl ?_
      refine go_iload_n hC dX11_plan_26 rfl 2 rfl ?_
      refine go_iload_n hC dX11_plan_27 rfl 3 rfl ?_
      obtain ⟨r_2, h_3, hc, hf⟩ := bd_e2 hf
      refine go_callV hC (c_X11_plannedYards x1 x2 x3 h h_3 r_2 hc) gX11_plan_X11_plannedYards rfl ⟨rfl, rfl⟩ 3 e_X11_plannedYards ⟨Nat.le_of_ble_eq_true rfl, Nat.le_of_ble_eq_true rfl⟩ (b_0 _) rfl rfl (st := []) (st1 := [.int r_2]) rfl rfl (Nat.le_of_ble_eq_true rfl) ⟨Nat.zero_le _, Nat.zero_le _⟩ dX11_plan_28 ?_
      obtain ⟨r_4, hc, hf⟩ := bd_e1 hf
      refine go_callS hC (c_X11_yardsOrNone r_2 h_3 r_4 hc) gX11_plan_X11_yardsOrNone rfl ⟨rfl, rfl⟩ 1 e_X11_yardsOrNone ⟨Nat.le_of_ble_eq_true rfl, Nat.le_of_ble_eq_true rfl⟩ rfl (st := []) (st1 := [.int r_4]) rfl rfl (Nat.le_of_ble_eq_true rfl) ⟨Nat.zero_le _, Nat.zero_le _⟩ dX11_plan_31 ?_
      obtain ⟨rfl, rfl⟩ := so_2 hf
      exact hret _ _ rfl dX11_plan_34
    · replace hf := if_t c_5 hf
      refine go_bipush hC dX11_plan_21 k8_m3 ?_
      obtain ⟨rfl, rfl⟩ := so_2 hf
      exact hret _ _ rfl dX11_plan_23
  · replace hf := if_t c_6 hf
    refine go_bipush hC dX11_plan_8 k8_m2 ?_
    obtain ⟨rfl, rfl⟩ := so_2 hf
    exact hret _ _ rfl dX11_plan_10
def f_X11_on (x1 : Int32) (x2 : Int32) (x3 : Int32) (x4 : Int32) (h : PH) : Option (Int32 × PH) :=
  bd_1 (f_X6_isPoint x4 h) fun r_1 =>
  if r_1 = 0 then (
  some ((-1), h))
  else (
  bd_1 (f_X11_isPlanAsked x1 x2 h) fun r_2 =>
  if r_2 = 0 then (
  some ((-2), h))
  else (
  bd_2 (f_X11_plannedYards x1 x2 x3 h) fun r_3 h_4 =>
  if r_3 < 1000000 then (
  ga_i x4 8 (
  some (h_4.1 29 x4.toNatClampNeg, h_4)))
  else (
  some ((-9), h_4))))
theorem e_X11_on : yX11_on.cls = RX11 ∧ yX11_on.cls ≠ "java/lang/invoke/MethodHandle" ∧ yX11_on.cls ≠ "java/lang/invoke/VarHandle" ∧ (parseMethodDescriptor yX11_on.desc).map (fun d => d.parameters.length) = some 4 := by decide +kernel
set_option maxRecDepth 100000 in
set_option maxHeartbeats 4000000 in
theorem c_X11_on (x1 : Int32) (x2 : Int32) (x3 : Int32) (x4 : Int32) (h : PH) (h2 : PH) (r : Int32) (hf : f_X11_on x1 x2 x3 x4 h = some (r, h2)) : Con yX11_on wsX11_on (rm_d 19) l0_B [.ref 0, .int x1, .int x2, .int x3, .int x4] h (some (.int r)) h2 := by
  have hn11 : ∀ w ∈ wsX110, w ∈ wsX11_on := (fun _ hw => (List.mem_cons_of_mem _ (List.mem_append_left _ (List.mem_append_left _ (List.mem_append_left _ (List.mem_append_left _ (List.mem_append_right _ hw)))))))
  have hn5 : ∀ w ∈ wsX50, w ∈ wsX11_on := (fun _ hw => (List.mem_cons_of_mem _ (List.mem_append_left _ (List.mem_append_left _ (List.mem_append_left _ (List.mem_append_right _ hw))))))
  refine con_i (ty := .int) (cc := cX11_on) (nL := 5) (by decide) rfl (Nat.le_of_ble_eq_true rfl) ?_
  intro C hC hret
  change Go l0_B C 0 0 0 [(0, .ref 0), (1, .int x1), (2, .int x2), (3, .int x3), (4, .int x4)] [] h
  unfold f_X11_on at hf
  refine go_aload_n hC dX11_on_0 rfl 0 rfl ?_
  refine go_getr hC (j := 3) (idx := 35) (nm := "points") (ds := "LLampWays$Points;") (b_0 _) rfl rfl hn11 (Nat.le_of_ble_eq_true rfl) rfl rfl (List.mem_cons_of_mem _ (List.mem_append_left _ (List.mem_append_left _ (List.mem_append_left _ (List.mem_append_left _ (List.mem_append_left _ (List.mem_append_left _ (List.mem_of_getElem? (i := 0) rfl)))))))) (Or.inl rfl) dX11_on_1 ?_
  refine go_iload hC dX11_on_4 4 rfl ?_
  obtain ⟨r_1, hc, hf⟩ := bd_e1 hf
  refine go_callV hC (c_X6_isPoint x4 h r_1 hc) gX11_on_X6_isPoint rfl ⟨rfl, rfl⟩ 1 e_X6_isPoint ⟨Nat.le_of_ble_eq_true rfl, Nat.le_of_ble_eq_true rfl⟩ (b_17 _) rfl rfl (st := []) (st1 := [.int r_1]) rfl rfl (Nat.le_of_ble_eq_true rfl) ⟨Nat.zero_le _, Nat.zero_le _⟩ dX11_on_6 ?_
  refine go_if_ne hC dX11_on_9 (tgt := 14) (by decide) (fun c_8 => ?_) (fun c_8 => ?_)
  · replace hf := if_f c_8 hf
    refine go_iload_n hC dX11_on_14 rfl 1 rfl ?_
    refine go_iload_n hC dX11_on_15 rfl 2 rfl ?_
    obtain ⟨r_2, hc, hf⟩ := bd_e1 hf
    refine go_callS hC (c_X11_isPlanAsked x1 x2 h r_2 hc) gX11_on_X11_isPlanAsked rfl ⟨rfl, rfl⟩ 2 e_X11_isPlanAsked ⟨Nat.le_of_ble_eq_true rfl, Nat.le_of_ble_eq_true rfl⟩ rfl (st := []) (st1 := [.int r_2]) rfl rfl (Nat.le_of_ble_eq_true rfl) ⟨Nat.zero_le _, Nat.zero_le _⟩ dX11_on_16 ?_
    refine go_if_ne hC dX11_on_19 (tgt := 25) (by decide) (fun c_7 => ?_) (fun c_7 => ?_)
    · replace hf := if_f c_7 hf
      refine go_aload_n hC dX11_on_25 rfl 0 rfl ?_
      refine go_iload_n hC dX11_on_26 rfl 1 rfl ?_
      refine go_iload_n hC dX11_on_27 rfl 2 rfl ?_
      refine go_iload_n hC dX11_on_28 rfl 3 rfl ?_
      obtain ⟨r_3, h_4, hc, hf⟩ := bd_e2 hf
      refine go_callV hC (c_X11_plannedYards x1 x2 x3 h h_4 r_3 hc) gX11_on_X11_plannedYards rfl ⟨rfl, rfl⟩ 3 e_X11_plannedYards ⟨Nat.le_of_ble_eq_true rfl, Nat.le_of_ble_eq_true rfl⟩ (b_0 _) rfl rfl (st := []) (st1 := [.int r_3]) rfl rfl (Nat.le_of_ble_eq_true rfl) ⟨Nat.zero_le _, Nat.zero_le _⟩ dX11_on_29 ?_
      refine go_ldcw hC (v := 1000000) (List.mem_cons_of_mem _ (List.mem_append_left _ (List.mem_append_left _ (List.mem_append_left _ (List.mem_append_left _ (List.mem_append_left _ (List.mem_append_left _ (List.mem_of_getElem? (i := 1) rfl)))))))) dX11_on_32 ?_
      refine go_icmp_lt hC dX11_on_35 (tgt := 43) (by decide) (fun c_6 => ?_) (fun c_6 => ?_)
      · replace hf := if_t c_6 hf
        refine go_aload_n hC dX11_on_43 rfl 0 rfl ?_
        refine go_getr hC (j := 7) (idx := 55) (nm := "plans") (ds := "LLampWays$Plans;") (b_0 _) rfl rfl hn11 (Nat.le_of_ble_eq_true rfl) rfl rfl (List.mem_cons_of_mem _ (List.mem_append_left _ (List.mem_append_left _ (List.mem_append_left _ (List.mem_append_left _ (List.mem_append_left _ (List.mem_append_left _ (List.mem_of_getElem? (i := 2) rfl)))))))) (Or.inl rfl) dX11_on_44 ?_
        refine go_getr hC (j := 1) (idx := 286) (nm := "firstRow") (ds := "[I") (b_27 _) rfl rfl hn5 (Nat.le_of_ble_eq_true rfl) rfl rfl (List.mem_cons_of_mem _ (List.mem_append_left _ (List.mem_append_left _ (List.mem_append_left _ (List.mem_append_left _ (List.mem_append_left _ (List.mem_append_left _ (List.mem_of_getElem? (i := 3) rfl)))))))) (Or.inl rfl) dX11_on_47 ?_
        refine go_iload hC dX11_on_50 4 rfl ?_
        obtain ⟨g_5, hf⟩ := ga_e hf
        refine go_iald hC (b_29 _) g_5 dX11_on_52 ?_
        obtain ⟨rfl, rfl⟩ := so_2 hf
        exact hret _ _ rfl dX11_on_53
      · replace hf := if_f c_6 hf
        refine go_bipush hC dX11_on_38 k8_m9 ?_
        refine go_goto hC dX11_on_40 (tgt := 53) (by decide) ?_
        obtain ⟨rfl, rfl⟩ := so_2 hf
        exact hret _ _ rfl dX11_on_53
    · replace hf := if_t c_7 hf
      refine go_bipush hC dX11_on_22 k8_m2 ?_
      obtain ⟨rfl, rfl⟩ := so_2 hf
      exact hret _ _ rfl dX11_on_24
  · replace hf := if_t c_8 hf
    refine go_iconst hC dX11_on_12 k1_m1 ?_
    obtain ⟨rfl, rfl⟩ := so_2 hf
    exact hret _ _ rfl dX11_on_13
def lb_X11_best_48 (x1 : Int32) (x2 : Int32) (x3 : Int32) (x4 : Int32) (x5 : Int32) (x6 : Int32) (h : PH) : Option ((Int32 × Int32 × Int32 × PH) ⊕ (Int32 × Int32 × Int32 × PH)) :=
  if (h.1 10 0) ≤ x6 then (
  some (.inr (x4, x5, x6, h)))
  else (
  bd_2 (f_X11_plannedYardsFrom x6 x1 x2 x3 h) fun r_11 h_12 =>
  if x5 ≤ r_11 then (
  lt_b (x6 + 1) fun x6_13 =>
  some (.inl (x4, x5, x6_13, h_12)))
  else (
  lt_b (x6 + 1) fun x6_14 =>
  some (.inl (x6, r_11, x6_14, h_12))))
def f_X11_best (x1 : Int32) (x2 : Int32) (x3 : Int32) (h : PH) : Option (Int32 × PH) :=
  bd_1 (f_X11_isPlanAsked x1 x2 h) fun r_1 =>
  if r_1 = 0 then (
  some ((-2), h))
  else (
  if (h.1 17 0) = 0 then (
  some ((-3), h))
  else (
  bd_1 (f_X6_all h) fun r_2 =>
  bd_2 (f_X11_reckonOrders r_2 0 h) fun r_3 h_4 =>
  bd_1 (lp_f (fun s => lb_X11_best_48 x1 x2 x3 s.1 s.2.1 s.2.2.1 s.2.2.2) fu_l ((-9), 1000000, 0, h_4)) fun s_17 =>
  some (s_17.1, s_17.2.2.2)))
set_option maxRecDepth 100000 in
set_option maxHeartbeats 4000000 in
theorem lw_X11_best_48 {C : GC} (hC : Cx C cX11_best 8 wsX11_best RX11 (some .int) (rm_d 18)) (x1 : Int32) (x2 : Int32) (x3 : Int32) : ∀ (n9 : Nat) (x4 : Int32) (x5 : Int32) (x6 : Int32) (h : PH) (y : Int32 × Int32 × Int32 × PH), lp_f (fun s => lb_X11_best_48 x1 x2 x3 s.1 s.2.1 s.2.2.1 s.2.2.2) n9 (x4, x5, x6, h) = some y → ∀ (hk : Go l0_B C 0 0 92 [(4, .int y.1)] [] y.2.2.2), Go l0_B C 0 0 48 [(0, .ref 0), (1, .int x1), (2, .int x2), (3, .int x3), (4, .int x4), (5, .int x5), (6, .int x6)] [] h := by
  have hn11 : ∀ w ∈ wsX110, w ∈ wsX11_best := (fun _ hw => (List.mem_cons_of_mem _ (List.mem_append_left _ (List.mem_append_left _ (List.mem_append_left _ (List.mem_append_left _ (List.mem_append_right _ hw)))))))
  have hn3 : ∀ w ∈ wsX30, w ∈ wsX11_best := (fun _ hw => (List.mem_cons_of_mem _ (List.mem_append_left _ (List.mem_append_left _ (List.mem_append_right _ hw)))))
  have hn6 : ∀ w ∈ wsX60, w ∈ wsX11_best := (fun _ hw => (List.mem_cons_of_mem _ (List.mem_append_left _ (List.mem_append_left _ (List.mem_append_left _ (List.mem_append_right _ hw))))))
  intro n9
  induction n9 with
  | zero =>
    intro x4 x5 x6 h y hlp
    cases hlp
  | succ n9 ih =>
    intro x4 x5 x6 h y hlp hk
    obtain ⟨k9, z, hk9, hf, hy⟩ := lp_e hlp
    cases hk9
    replace hf : lb_X11_best_48 x1 x2 x3 x4 x5 x6 h = some z := hf
    unfold lb_X11_best_48 at hf
    refine go_iload hC dX11_best_48 6 rfl ?_
    refine go_aload_n hC dX11_best_50 rfl 0 rfl ?_
    refine go_getr hC (j := 2) (idx := 28) (nm := "plot") (ds := "LLampWays$House;") (b_0 _) rfl rfl hn11 (Nat.le_of_ble_eq_true rfl) rfl rfl (List.mem_cons_of_mem _ (List.mem_append_left _ (List.mem_append_left _ (List.mem_append_left _ (List.mem_append_left _ (List.mem_append_left _ (List.mem_append_left _ (List.mem_of_getElem? (i := 3) rfl)))))))) (Or.inl rfl) dX11_best_51 ?_
    refine go_geti hC (j := 0) (idx := 292) (nm := "places") (ds := "I") (b_10 _) rfl rfl hn3 (Nat.le_of_ble_eq_true rfl) rfl rfl (List.mem_cons_of_mem _ (List.mem_append_left _ (List.mem_append_left _ (List.mem_append_left _ (List.mem_append_left _ (List.mem_append_left _ (List.mem_append_left _ (List.mem_of_getElem? (i := 4) rfl)))))))) (Or.inl rfl) dX11_best_54 ?_
    refine go_icmp_ge hC dX11_best_57 (tgt := 92) (by decide) (fun c_16 => ?_) (fun c_16 => ?_)
    · replace hf := if_t c_16 hf
      obtain rfl := so_1 hf
      obtain rfl := lp_x hy
      refine go_sub [4] rfl ?_
      exact hk
    · replace hf := if_f c_16 hf
      refine go_aload_n hC dX11_best_60 rfl 0 rfl ?_
      refine go_iload hC dX11_best_61 6 rfl ?_
      refine go_iload_n hC dX11_best_63 rfl 1 rfl ?_
      refine go_iload_n hC dX11_best_64 rfl 2 rfl ?_
      refine go_iload_n hC dX11_best_65 rfl 3 rfl ?_
      obtain ⟨r_11, h_12, hc, hf⟩ := bd_e2 hf
      refine go_callV hC (c_X11_plannedYardsFrom x6 x1 x2 x3 h h_12 r_11 hc) gX11_best_X11_plannedYardsFrom rfl ⟨rfl, rfl⟩ 4 e_X11_plannedYardsFrom ⟨Nat.le_of_ble_eq_true rfl, Nat.le_of_ble_eq_true rfl⟩ (b_0 _) rfl rfl (st := []) (st1 := [.int r_11]) rfl rfl (Nat.le_of_ble_eq_true rfl) ⟨Nat.zero_le _, Nat.zero_le _⟩ dX11_best_66 ?_
      refine go_istore hC dX11_best_69 (Nat.le_of_ble_eq_true rfl) rfl ?_
      refine go_iload hC dX11_best_71 0 rfl ?_
      refine go_iload hC dX11_best_73 6 rfl ?_
      refine go_icmp_ge hC dX11_best_75 (tgt := 86) (by decide) (fun c_15 => ?_) (fun c_15 => ?_)
      · replace hf := if_t c_15 hf
        obtain ⟨x6_13, ex6_13, hf⟩ := lt_e hf
        refine go_iinc hC dX11_best_86 7 rfl k1_1 ex6_13 (Nat.le_of_ble_eq_true rfl) rfl ?_
        refine go_goto hC dX11_best_89 (tgt := 48) (by decide) ?_
        obtain rfl := so_1 hf
        refine go_sub [2, 3, 4, 5, 6, 7, 0] rfl ?_
        exact ih x4 x5 x6_13 h_12 _ (lp_c hy) hk
      · replace hf := if_f c_15 hf
        refine go_iload hC dX11_best_78 0 rfl ?_
        refine go_istore hC dX11_best_80 (Nat.le_of_ble_eq_true rfl) rfl ?_
        refine go_iload hC dX11_best_82 7 rfl ?_
        refine go_istore hC dX11_best_84 (Nat.le_of_ble_eq_true rfl) rfl ?_
        obtain ⟨x6_14, ex6_14, hf⟩ := lt_e hf
        refine go_iinc hC dX11_best_86 7 rfl k1_1 ex6_14 (Nat.le_of_ble_eq_true rfl) rfl ?_
        refine go_goto hC dX11_best_89 (tgt := 48) (by decide) ?_
        obtain rfl := so_1 hf
        refine go_sub [4, 5, 6, 7, 1, 2, 0] rfl ?_
        exact ih x6 r_11 x6_14 h_12 _ (lp_c hy) hk
theorem e_X11_best : yX11_best.cls = RX11 ∧ yX11_best.cls ≠ "java/lang/invoke/MethodHandle" ∧ yX11_best.cls ≠ "java/lang/invoke/VarHandle" ∧ (parseMethodDescriptor yX11_best.desc).map (fun d => d.parameters.length) = some 3 := by decide +kernel
set_option maxRecDepth 100000 in
set_option maxHeartbeats 4000000 in
theorem c_X11_best (x1 : Int32) (x2 : Int32) (x3 : Int32) (h : PH) (h2 : PH) (r : Int32) (hf : f_X11_best x1 x2 x3 h = some (r, h2)) : Con yX11_best wsX11_best (rm_d 18) l0_B [.ref 0, .int x1, .int x2, .int x3] h (some (.int r)) h2 := by
  have hn11 : ∀ w ∈ wsX110, w ∈ wsX11_best := (fun _ hw => (List.mem_cons_of_mem _ (List.mem_append_left _ (List.mem_append_left _ (List.mem_append_left _ (List.mem_append_left _ (List.mem_append_right _ hw)))))))
  have hn3 : ∀ w ∈ wsX30, w ∈ wsX11_best := (fun _ hw => (List.mem_cons_of_mem _ (List.mem_append_left _ (List.mem_append_left _ (List.mem_append_right _ hw)))))
  have hn6 : ∀ w ∈ wsX60, w ∈ wsX11_best := (fun _ hw => (List.mem_cons_of_mem _ (List.mem_append_left _ (List.mem_append_left _ (List.mem_append_left _ (List.mem_append_right _ hw))))))
  refine con_i (ty := .int) (cc := cX11_best) (nL := 8) (by decide) rfl (Nat.le_of_ble_eq_true rfl) ?_
  intro C hC hret
  change Go l0_B C 0 0 0 [(0, .ref 0), (1, .int x1), (2, .int x2), (3, .int x3)] [] h
  unfold f_X11_best at hf
  refine go_iload_n hC dX11_best_0 rfl 1 rfl ?_
  refine go_iload_n hC dX11_best_1 rfl 2 rfl ?_
  obtain ⟨r_1, hc, hf⟩ := bd_e1 hf
  refine go_callS hC (c_X11_isPlanAsked x1 x2 h r_1 hc) gX11_best_X11_isPlanAsked rfl ⟨rfl, rfl⟩ 2 e_X11_isPlanAsked ⟨Nat.le_of_ble_eq_true rfl, Nat.le_of_ble_eq_true rfl⟩ rfl (st := []) (st1 := [.int r_1]) rfl rfl (Nat.le_of_ble_eq_true rfl) ⟨Nat.zero_le _, Nat.zero_le _⟩ dX11_best_2 ?_
  refine go_if_ne hC dX11_best_5 (tgt := 11) (by decide) (fun c_19 => ?_) (fun c_19 => ?_)
  · replace hf := if_f c_19 hf
    refine go_aload_n hC dX11_best_11 rfl 0 rfl ?_
    refine go_getr hC (j := 3) (idx := 35) (nm := "points") (ds := "LLampWays$Points;") (b_0 _) rfl rfl hn11 (Nat.le_of_ble_eq_true rfl) rfl rfl (List.mem_cons_of_mem _ (List.mem_append_left _ (List.mem_append_left _ (List.mem_append_left _ (List.mem_append_left _ (List.mem_append_left _ (List.mem_append_left _ (List.mem_of_getElem? (i := 0) rfl)))))))) (Or.inl rfl) dX11_best_12 ?_
    refine go_geti hC (j := 0) (idx := 115) (nm := "count") (ds := "I") (b_17 _) rfl rfl hn6 (Nat.le_of_ble_eq_true rfl) rfl rfl (List.mem_cons_of_mem _ (List.mem_append_left _ (List.mem_append_left _ (List.mem_append_left _ (List.mem_append_left _ (List.mem_append_left _ (List.mem_append_left _ (List.mem_of_getElem? (i := 1) rfl)))))))) (Or.inl rfl) dX11_best_15 ?_
    refine go_if_ne hC dX11_best_18 (tgt := 24) (by decide) (fun c_18 => ?_) (fun c_18 => ?_)
    · replace hf := if_f c_18 hf
      refine go_aload_n hC dX11_best_24 rfl 0 rfl ?_
      refine go_aload_n hC dX11_best_25 rfl 0 rfl ?_
      refine go_getr hC (j := 3) (idx := 35) (nm := "points") (ds := "LLampWays$Points;") (b_0 _) rfl rfl hn11 (Nat.le_of_ble_eq_true rfl) rfl rfl (List.mem_cons_of_mem _ (List.mem_append_left _ (List.mem_append_left _ (List.mem_append_left _ (List.mem_append_left _ (List.mem_append_left _ (List.mem_append_left _ (List.mem_of_getElem? (i := 0) rfl)))))))) (Or.inl rfl) dX11_best_26 ?_
      obtain ⟨r_2, hc, hf⟩ := bd_e1 hf
      refine go_callV hC (c_X6_all h r_2 hc) gX11_best_X6_all rfl ⟨rfl, rfl⟩ 0 e_X6_all ⟨Nat.le_of_ble_eq_true rfl, Nat.le_of_ble_eq_true rfl⟩ (b_17 _) rfl rfl (st := [.ref 0]) (st1 := [.int r_2, .ref 0]) rfl rfl (Nat.le_of_ble_eq_true rfl) ⟨Nat.zero_le _, Nat.zero_le _⟩ dX11_best_29 ?_
      refine go_iconst hC dX11_best_32 k1_0 ?_
      obtain ⟨r_3, h_4, hc, hf⟩ := bd_e2 hf
      refine go_callV hC (c_X11_reckonOrders r_2 0 h h_4 hc) gX11_best_X11_reckonOrders rfl ⟨rfl, rfl⟩ 2 e_X11_reckonOrders ⟨Nat.le_of_ble_eq_true rfl, Nat.le_of_ble_eq_true rfl⟩ (b_0 _) rfl rfl (st := []) (st1 := []) rfl rfl (Nat.le_of_ble_eq_true rfl) ⟨Nat.zero_le _, Nat.zero_le _⟩ dX11_best_33 ?_
      refine go_bipush hC dX11_best_36 k8_m9 ?_
      refine go_istore hC dX11_best_38 (Nat.le_of_ble_eq_true rfl) rfl ?_
      refine go_ldcw hC (v := 1000000) (List.mem_cons_of_mem _ (List.mem_append_left _ (List.mem_append_left _ (List.mem_append_left _ (List.mem_append_left _ (List.mem_append_left _ (List.mem_append_left _ (List.mem_of_getElem? (i := 2) rfl)))))))) dX11_best_40 ?_
      refine go_istore hC dX11_best_43 (Nat.le_of_ble_eq_true rfl) rfl ?_
      refine go_iconst hC dX11_best_45 k1_0 ?_
      refine go_istore hC dX11_best_46 (Nat.le_of_ble_eq_true rfl) rfl ?_
      obtain ⟨s_17, hl, hf⟩ := bd_e1 hf
      refine go_sub [3, 4, 5, 6, 2, 1, 0] rfl ?_
      refine lw_X11_best_48 hC x1 x2 x3 _ (-9) 1000000 0 h_4 s_17 hl ?_
      refine go_iload hC dX11_best_92 0 rfl ?_
      obtain ⟨rfl, rfl⟩ := so_2 hf
      exact hret _ _ rfl dX11_best_94
    · replace hf := if_t c_18 hf
      refine go_bipush hC dX11_best_21 k8_m3 ?_
      obtain ⟨rfl, rfl⟩ := so_2 hf
      exact hret _ _ rfl dX11_best_23
  · replace hf := if_t c_19 hf
    refine go_bipush hC dX11_best_8 k8_m2 ?_
    obtain ⟨rfl, rfl⟩ := so_2 hf
    exact hret _ _ rfl dX11_best_10
def f_X11_costs (x1 : Int32) (x2 : Int32) (x3 : Int32) (x4 : Int32) (h : PH) : Option (Int32 × PH) :=
  bd_1 (f_X3_isRun x1 h) fun r_1 =>
  if r_1 = 0 then (
  some ((-1), h))
  else (
  bd_1 (f_X11_isPlanAsked x2 x3 h) fun r_2 =>
  if r_2 = 0 then (
  some ((-2), h))
  else (
  if (h.1 17 0) = 0 then (
  some ((-3), h))
  else (
  bd_2 (f_X11_plannedYards x2 x3 x4 h) fun r_3 h_4 =>
  ga_i x1 14 (
  lt_b (h_4.1 15 x1.toNatClampNeg) fun x6_6 =>
  bd_2 (f_X3_close x1 1 h_4) fun r_7 h_8 =>
  bd_2 (f_X11_plannedYards x2 x3 x4 h_8) fun r_9 h_10 =>
  bd_2 (f_X3_close x1 x6_6 h_10) fun r_11 h_12 =>
  if 1000000 ≤ r_3 then (
  some ((-9), h_12))
  else (
  if r_9 < 1000000 then (
  some (r_9 - r_3, h_12))
  else (
  some ((-9), h_12)))))))
theorem e_X11_costs : yX11_costs.cls = RX11 ∧ yX11_costs.cls ≠ "java/lang/invoke/MethodHandle" ∧ yX11_costs.cls ≠ "java/lang/invoke/VarHandle" ∧ (parseMethodDescriptor yX11_costs.desc).map (fun d => d.parameters.length) = some 4 := by decide +kernel
set_option maxRecDepth 100000 in
set_option maxHeartbeats 4000000 in
theorem c_X11_costs (x1 : Int32) (x2 : Int32) (x3 : Int32) (x4 : Int32) (h : PH) (h2 : PH) (r : Int32) (hf : f_X11_costs x1 x2 x3 x4 h = some (r, h2)) : Con yX11_costs wsX11_costs (rm_d 19) l0_B [.ref 0, .int x1, .int x2, .int x3, .int x4] h (some (.int r)) h2 := by
  have hn11 : ∀ w ∈ wsX110, w ∈ wsX11_costs := (fun _ hw => (List.mem_cons_of_mem _ (List.mem_append_left _ (List.mem_append_left _ (List.mem_append_left _ (List.mem_append_left _ (List.mem_append_right _ hw)))))))
  have hn3 : ∀ w ∈ wsX30, w ∈ wsX11_costs := (fun _ hw => (List.mem_cons_of_mem _ (List.mem_append_left _ (List.mem_append_left _ (List.mem_append_right _ hw)))))
  have hn6 : ∀ w ∈ wsX60, w ∈ wsX11_costs := (fun _ hw => (List.mem_cons_of_mem _ (List.mem_append_left _ (List.mem_append_left _ (List.mem_append_left _ (List.mem_append_right _ hw))))))
  refine con_i (ty := .int) (cc := cX11_costs) (nL := 8) (by decide) rfl (Nat.le_of_ble_eq_true rfl) ?_
  intro C hC hret
  change Go l0_B C 0 0 0 [(0, .ref 0), (1, .int x1), (2, .int x2), (3, .int x3), (4, .int x4)] [] h
  unfold f_X11_costs at hf
  refine go_aload_n hC dX11_costs_0 rfl 0 rfl ?_
  refine go_getr hC (j := 2) (idx := 28) (nm := "plot") (ds := "LLampWays$House;") (b_0 _) rfl rfl hn11 (Nat.le_of_ble_eq_true rfl) rfl rfl (List.mem_cons_of_mem _ (List.mem_append_left _ (List.mem_append_left _ (List.mem_append_left _ (List.mem_append_left _ (List.mem_append_left _ (List.mem_append_left _ (List.mem_of_getElem? (i := 0) rfl)))))))) (Or.inl rfl) dX11_costs_1 ?_
  refine go_iload_n hC dX11_costs_4 rfl 1 rfl ?_
  obtain ⟨r_1, hc, hf⟩ := bd_e1 hf
  refine go_callV hC (c_X3_isRun x1 h r_1 hc) gX11_costs_X3_isRun rfl ⟨rfl, rfl⟩ 1 e_X3_isRun ⟨Nat.le_of_ble_eq_true rfl, Nat.le_of_ble_eq_true rfl⟩ (b_10 _) rfl rfl (st := []) (st1 := [.int r_1]) rfl rfl (Nat.le_of_ble_eq_true rfl) ⟨Nat.zero_le _, Nat.zero_le _⟩ dX11_costs_5 ?_
  refine go_if_ne hC dX11_costs_8 (tgt := 13) (by decide) (fun c_17 => ?_) (fun c_17 => ?_)
  · replace hf := if_f c_17 hf
    refine go_iload_n hC dX11_costs_13 rfl 2 rfl ?_
    refine go_iload_n hC dX11_costs_14 rfl 3 rfl ?_
    obtain ⟨r_2, hc, hf⟩ := bd_e1 hf
    refine go_callS hC (c_X11_isPlanAsked x2 x3 h r_2 hc) gX11_costs_X11_isPlanAsked rfl ⟨rfl, rfl⟩ 2 e_X11_isPlanAsked ⟨Nat.le_of_ble_eq_true rfl, Nat.le_of_ble_eq_true rfl⟩ rfl (st := []) (st1 := [.int r_2]) rfl rfl (Nat.le_of_ble_eq_true rfl) ⟨Nat.zero_le _, Nat.zero_le _⟩ dX11_costs_15 ?_
    refine go_if_ne hC dX11_costs_18 (tgt := 24) (by decide) (fun c_16 => ?_) (fun c_16 => ?_)
    · replace hf := if_f c_16 hf
      refine go_aload_n hC dX11_costs_24 rfl 0 rfl ?_
      refine go_getr hC (j := 3) (idx := 35) (nm := "points") (ds := "LLampWays$Points;") (b_0 _) rfl rfl hn11 (Nat.le_of_ble_eq_true rfl) rfl rfl (List.mem_cons_of_mem _ (List.mem_append_left _ (List.mem_append_left _ (List.mem_append_left _ (List.mem_append_left _ (List.mem_append_left _ (List.mem_append_left _ (List.mem_of_getElem? (i := 1) rfl)))))))) (Or.inl rfl) dX11_costs_25 ?_
      refine go_geti hC (j := 0) (idx := 115) (nm := "count") (ds := "I") (b_17 _) rfl rfl hn6 (Nat.le_of_ble_eq_true rfl) rfl rfl (List.mem_cons_of_mem _ (List.mem_append_left _ (List.mem_append_left _ (List.mem_append_left _ (List.mem_append_left _ (List.mem_append_left _ (List.mem_append_left _ (List.mem_of_getElem? (i := 2) rfl)))))))) (Or.inl rfl) dX11_costs_28 ?_
      refine go_if_ne hC dX11_costs_31 (tgt := 37) (by decide) (fun c_15 => ?_) (fun c_15 => ?_)
      · replace hf := if_f c_15 hf
        refine go_aload_n hC dX11_costs_37 rfl 0 rfl ?_
        refine go_iload_n hC dX11_costs_38 rfl 2 rfl ?_
        refine go_iload_n hC dX11_costs_39 rfl 3 rfl ?_
        refine go_iload hC dX11_costs_40 4 rfl ?_
        obtain ⟨r_3, h_4, hc, hf⟩ := bd_e2 hf
        refine go_callV hC (c_X11_plannedYards x2 x3 x4 h h_4 r_3 hc) gX11_costs_X11_plannedYards rfl ⟨rfl, rfl⟩ 3 e_X11_plannedYards ⟨Nat.le_of_ble_eq_true rfl, Nat.le_of_ble_eq_true rfl⟩ (b_0 _) rfl rfl (st := []) (st1 := [.int r_3]) rfl rfl (Nat.le_of_ble_eq_true rfl) ⟨Nat.zero_le _, Nat.zero_le _⟩ dX11_costs_42 ?_
        refine go_istore hC dX11_costs_45 (Nat.le_of_ble_eq_true rfl) rfl ?_
        refine go_aload_n hC dX11_costs_47 rfl 1 rfl ?_
        refine go_getr hC (j := 2) (idx := 28) (nm := "plot") (ds := "LLampWays$House;") (b_0 _) rfl rfl hn11 (Nat.le_of_ble_eq_true rfl) rfl rfl (List.mem_cons_of_mem _ (List.mem_append_left _ (List.mem_append_left _ (List.mem_append_left _ (List.mem_append_left _ (List.mem_append_left _ (List.mem_append_left _ (List.mem_of_getElem? (i := 0) rfl)))))))) (Or.inl rfl) dX11_costs_48 ?_
        refine go_getr hC (j := 7) (idx := 140) (nm := "closed") (ds := "[Z") (b_10 _) rfl rfl hn3 (Nat.le_of_ble_eq_true rfl) rfl rfl (List.mem_cons_of_mem _ (List.mem_append_left _ (List.mem_append_left _ (List.mem_append_left _ (List.mem_append_left _ (List.mem_append_left _ (List.mem_append_left _ (List.mem_of_getElem? (i := 3) rfl)))))))) (Or.inl rfl) dX11_costs_51 ?_
        refine go_iload_n hC dX11_costs_54 rfl 2 rfl ?_
        obtain ⟨g_5, hf⟩ := ga_e hf
        refine go_zald hC (b_15 _) g_5 dX11_costs_55 ?_
        obtain ⟨x6_6, ex6_6, hf⟩ := lt_e hf
        refine go_topi ex6_6 ?_
        refine go_istore hC dX11_costs_56 (Nat.le_of_ble_eq_true rfl) rfl ?_
        refine go_aload_n hC dX11_costs_58 rfl 2 rfl ?_
        refine go_getr hC (j := 2) (idx := 28) (nm := "plot") (ds := "LLampWays$House;") (b_0 _) rfl rfl hn11 (Nat.le_of_ble_eq_true rfl) rfl rfl (List.mem_cons_of_mem _ (List.mem_append_left _ (List.mem_append_left _ (List.mem_append_left _ (List.mem_append_left _ (List.mem_append_left _ (List.mem_append_left _ (List.mem_of_getElem? (i := 0) rfl)))))))) (Or.inl rfl) dX11_costs_59 ?_
        refine go_iload_n hC dX11_costs_62 rfl 3 rfl ?_
        refine go_iconst hC dX11_costs_63 k1_1 ?_
        obtain ⟨r_7, h_8, hc, hf⟩ := bd_e2 hf
        refine go_callV hC (c_X3_close x1 1 h_4 h_8 hc) gX11_costs_X3_close rfl ⟨rfl, rfl⟩ 2 e_X3_close ⟨Nat.le_of_ble_eq_true rfl, Nat.le_of_ble_eq_true rfl⟩ (b_10 _) rfl rfl (st := []) (st1 := []) rfl rfl (Nat.le_of_ble_eq_true rfl) ⟨Nat.zero_le _, Nat.zero_le _⟩ dX11_costs_64 ?_
        refine go_aload_n hC dX11_costs_67 rfl 2 rfl ?_
        refine go_iload_n hC dX11_costs_68 rfl 4 rfl ?_
        refine go_iload_n hC dX11_costs_69 rfl 5 rfl ?_
        refine go_iload hC dX11_costs_70 6 rfl ?_
        obtain ⟨r_9, h_10, hc, hf⟩ := bd_e2 hf
        refine go_callV hC (c_X11_plannedYards x2 x3 x4 h_8 h_10 r_9 hc) gX11_costs_X11_plannedYards rfl ⟨rfl, rfl⟩ 3 e_X11_plannedYards ⟨Nat.le_of_ble_eq_true rfl, Nat.le_of_ble_eq_true rfl⟩ (b_0 _) rfl rfl (st := []) (st1 := [.int r_9]) rfl rfl (Nat.le_of_ble_eq_true rfl) ⟨Nat.zero_le _, Nat.zero_le _⟩ dX11_costs_72 ?_
        refine go_istore hC dX11_costs_75 (Nat.le_of_ble_eq_true rfl) rfl ?_
        refine go_aload_n hC dX11_costs_77 rfl 3 rfl ?_
        refine go_getr hC (j := 2) (idx := 28) (nm := "plot") (ds := "LLampWays$House;") (b_0 _) rfl rfl hn11 (Nat.le_of_ble_eq_true rfl) rfl rfl (List.mem_cons_of_mem _ (List.mem_append_left _ (List.mem_append_left _ (List.mem_append_left _ (List.mem_append_left _ (List.mem_append_left _ (List.mem_append_left _ (List.mem_of_getElem? (i := 0) rfl)))))))) (Or.inl rfl) dX11_costs_78 ?_
        refine go_iload_n hC dX11_costs_81 rfl 4 rfl ?_
        refine go_iload hC dX11_costs_82 1 rfl ?_
        obtain ⟨r_11, h_12, hc, hf⟩ := bd_e2 hf
        refine go_callV hC (c_X3_close x1 x6_6 h_10 h_12 hc) gX11_costs_X3_close rfl ⟨rfl, rfl⟩ 2 e_X3_close ⟨Nat.le_of_ble_eq_true rfl, Nat.le_of_ble_eq_true rfl⟩ (b_10 _) rfl rfl (st := []) (st1 := []) rfl rfl (Nat.le_of_ble_eq_true rfl) ⟨Nat.zero_le _, Nat.zero_le _⟩ dX11_costs_84 ?_
        refine go_iload hC dX11_costs_87 2 rfl ?_
        refine go_ldcw hC (v := 1000000) (List.mem_cons_of_mem _ (List.mem_append_left _ (List.mem_append_left _ (List.mem_append_left _ (List.mem_append_left _ (List.mem_append_left _ (List.mem_append_left _ (List.mem_of_getElem? (i := 4) rfl)))))))) dX11_costs_89 ?_
        refine go_icmp_ge hC dX11_costs_92 (tgt := 103) (by decide) (fun c_14 => ?_) (fun c_14 => ?_)
        · replace hf := if_t c_14 hf
          refine go_bipush hC dX11_costs_103 k8_m9 ?_
          refine go_goto hC dX11_costs_105 (tgt := 113) (by decide) ?_
          obtain ⟨rfl, rfl⟩ := so_2 hf
          exact hret _ _ rfl dX11_costs_113
        · replace hf := if_f c_14 hf
          refine go_iload hC dX11_costs_95 0 rfl ?_
          refine go_ldcw hC (v := 1000000) (List.mem_cons_of_mem _ (List.mem_append_left _ (List.mem_append_left _ (List.mem_append_left _ (List.mem_append_left _ (List.mem_append_left _ (List.mem_append_left _ (List.mem_of_getElem? (i := 4) rfl)))))))) dX11_costs_97 ?_
          refine go_icmp_lt hC dX11_costs_100 (tgt := 108) (by decide) (fun c_13 => ?_) (fun c_13 => ?_)
          · replace hf := if_t c_13 hf
            refine go_iload hC dX11_costs_108 0 rfl ?_
            refine go_iload hC dX11_costs_110 2 rfl ?_
            refine go_isub hC dX11_costs_112 ?_
            obtain ⟨rfl, rfl⟩ := so_2 hf
            exact hret _ _ rfl dX11_costs_113
          · replace hf := if_f c_13 hf
            refine go_bipush hC dX11_costs_103 k8_m9 ?_
            refine go_goto hC dX11_costs_105 (tgt := 113) (by decide) ?_
            obtain ⟨rfl, rfl⟩ := so_2 hf
            exact hret _ _ rfl dX11_costs_113
      · replace hf := if_t c_15 hf
        refine go_bipush hC dX11_costs_34 k8_m3 ?_
        obtain ⟨rfl, rfl⟩ := so_2 hf
        exact hret _ _ rfl dX11_costs_36
    · replace hf := if_t c_16 hf
      refine go_bipush hC dX11_costs_21 k8_m2 ?_
      obtain ⟨rfl, rfl⟩ := so_2 hf
      exact hret _ _ rfl dX11_costs_23
  · replace hf := if_t c_17 hf
    refine go_iconst hC dX11_costs_11 k1_m1 ?_
    obtain ⟨rfl, rfl⟩ := so_2 hf
    exact hret _ _ rfl dX11_costs_12
def f_X11_isSetOfDoors (x1 : Int32) (h : PH) : Option (Int32) :=
  lt_b (((1 : Int32) <<< ((h.1 10 0) &&& 31)) - 1) fun x2_1 =>
  if (x1 &&& (x2_1 ^^^ (-1))) = 0 then (
  if x1 = 0 then (
  some 0)
  else (
  bd_1 (f_J6_bitCount_0f7a4 x1 h) fun r_2 =>
  if 4 < r_2 then (
  some 0)
  else (
  some 1)))
  else (
  some 0)
theorem e_X11_isSetOfDoors : yX11_isSetOfDoors.cls = RX11 ∧ yX11_isSetOfDoors.cls ≠ "java/lang/invoke/MethodHandle" ∧ yX11_isSetOfDoors.cls ≠ "java/lang/invoke/VarHandle" ∧ (parseMethodDescriptor yX11_isSetOfDoors.desc).map (fun d => d.parameters.length) = some 1 := by decide +kernel
set_option maxRecDepth 100000 in
set_option maxHeartbeats 4000000 in
theorem c_X11_isSetOfDoors (x1 : Int32) (h : PH) (r : Int32) (hf : f_X11_isSetOfDoors x1 h = some r) : Con yX11_isSetOfDoors wsX11_isSetOfDoors (rm_d 1) l0_B [.ref 0, .int x1] h (some (.int r)) h := by
  have hn11 : ∀ w ∈ wsX110, w ∈ wsX11_isSetOfDoors := (fun _ hw => (List.mem_cons_of_mem _ (List.mem_append_left _ (List.mem_append_right _ hw))))
  have hn3 : ∀ w ∈ wsX30, w ∈ wsX11_isSetOfDoors := (fun _ hw => (List.mem_cons_of_mem _ (List.mem_append_right _ hw)))
  refine con_i (ty := .boolean) (cc := cX11_isSetOfDoors) (nL := 3) (by decide) rfl (Nat.le_of_ble_eq_true rfl) ?_
  intro C hC hret
  change Go l0_B C 0 0 0 [(0, .ref 0), (1, .int x1)] [] h
  unfold f_X11_isSetOfDoors at hf
  refine go_iconst hC dX11_isSetOfDoors_0 k1_1 ?_
  refine go_aload_n hC dX11_isSetOfDoors_1 rfl 0 rfl ?_
  refine go_getr hC (j := 2) (idx := 28) (nm := "plot") (ds := "LLampWays$House;") (b_0 _) rfl rfl hn11 (Nat.le_of_ble_eq_true rfl) rfl rfl (List.mem_cons_of_mem _ (List.mem_append_left _ (List.mem_append_left _ (List.mem_of_getElem? (i := 0) rfl)))) (Or.inl rfl) dX11_isSetOfDoors_2 ?_
  refine go_geti hC (j := 0) (idx := 292) (nm := "places") (ds := "I") (b_10 _) rfl rfl hn3 (Nat.le_of_ble_eq_true rfl) rfl rfl (List.mem_cons_of_mem _ (List.mem_append_left _ (List.mem_append_left _ (List.mem_of_getElem? (i := 1) rfl)))) (Or.inl rfl) dX11_isSetOfDoors_5 ?_
  refine go_ishl hC dX11_isSetOfDoors_8 ?_
  refine go_iconst hC dX11_isSetOfDoors_9 k1_1 ?_
  refine go_isub hC dX11_isSetOfDoors_10 ?_
  obtain ⟨x2_1, ex2_1, hf⟩ := lt_e hf
  refine go_topi ex2_1 ?_
  refine go_istore_n hC dX11_isSetOfDoors_11 rfl (Nat.le_of_ble_eq_true rfl) rfl ?_
  refine go_iload_n hC dX11_isSetOfDoors_12 rfl 2 rfl ?_
  refine go_iload_n hC dX11_isSetOfDoors_13 rfl 0 rfl ?_
  refine go_iconst hC dX11_isSetOfDoors_14 k1_m1 ?_
  refine go_ixor hC dX11_isSetOfDoors_15 ?_
  refine go_iand hC dX11_isSetOfDoors_16 ?_
  refine go_if_ne hC dX11_isSetOfDoors_17 (tgt := 36) (by decide) (fun c_5 => ?_) (fun c_5 => ?_)
  · replace hf := if_f c_5 hf
    refine go_iconst hC dX11_isSetOfDoors_36 k1_0 ?_
    obtain rfl := so_1 hf
    exact hret _ _ (zo_n (Or.inl rfl)) dX11_isSetOfDoors_37
  · replace hf := if_t c_5 hf
    refine go_iload_n hC dX11_isSetOfDoors_20 rfl 2 rfl ?_
    refine go_if_eq hC dX11_isSetOfDoors_21 (tgt := 36) (by decide) (fun c_4 => ?_) (fun c_4 => ?_)
    · replace hf := if_t c_4 hf
      refine go_iconst hC dX11_isSetOfDoors_36 k1_0 ?_
      obtain rfl := so_1 hf
      exact hret _ _ (zo_n (Or.inl rfl)) dX11_isSetOfDoors_37
    · replace hf := if_f c_4 hf
      refine go_iload_n hC dX11_isSetOfDoors_24 rfl 2 rfl ?_
      obtain ⟨r_2, hc, hf⟩ := bd_e1 hf
      refine go_callS hC (c_J6_bitCount_0f7a4 x1 h r_2 hc) gX11_isSetOfDoors_J6_bitCount_0f7a4 rfl ⟨rfl, rfl⟩ 1 e_J6_bitCount_0f7a4 ⟨Nat.le_of_ble_eq_true rfl, Nat.le_of_ble_eq_true rfl⟩ rfl (st := []) (st1 := [.int r_2]) rfl rfl (Nat.le_of_ble_eq_true rfl) ⟨Nat.zero_le _, Nat.zero_le _⟩ dX11_isSetOfDoors_25 ?_
      refine go_iconst hC dX11_isSetOfDoors_28 k1_4 ?_
      refine go_icmp_gt hC dX11_isSetOfDoors_29 (tgt := 36) (by decide) (fun c_3 => ?_) (fun c_3 => ?_)
      · replace hf := if_t c_3 hf
        refine go_iconst hC dX11_isSetOfDoors_36 k1_0 ?_
        obtain rfl := so_1 hf
        exact hret _ _ (zo_n (Or.inl rfl)) dX11_isSetOfDoors_37
      · replace hf := if_f c_3 hf
        refine go_iconst hC dX11_isSetOfDoors_32 k1_1 ?_
        refine go_goto hC dX11_isSetOfDoors_33 (tgt := 37) (by decide) ?_
        obtain rfl := so_1 hf
        exact hret _ _ (zo_n (Or.inr rfl)) dX11_isSetOfDoors_37
def f_X11_cores (x1 : Int32) (x2 : Int32) (h : PH) : Option (Int32 × PH) :=
  bd_1 (f_X3_isPlace x1 h) fun r_1 =>
  if r_1 = 0 then (
  some ((-1), h))
  else (
  bd_1 (f_X11_isSetOfDoors x2 h) fun r_2 =>
  if r_2 = 0 then (
  some ((-2), h))
  else (
  bd_2 (f_X2_fewestCores x1 x2 h) fun r_3 h_4 =>
  bd_1 (f_X11_yardsOrNone r_3 h_4) fun r_5 =>
  some (r_5, h_4)))
theorem e_X11_cores : yX11_cores.cls = RX11 ∧ yX11_cores.cls ≠ "java/lang/invoke/MethodHandle" ∧ yX11_cores.cls ≠ "java/lang/invoke/VarHandle" ∧ (parseMethodDescriptor yX11_cores.desc).map (fun d => d.parameters.length) = some 2 := by decide +kernel
set_option maxRecDepth 100000 in
set_option maxHeartbeats 4000000 in
theorem c_X11_cores (x1 : Int32) (x2 : Int32) (h : PH) (h2 : PH) (r : Int32) (hf : f_X11_cores x1 x2 h = some (r, h2)) : Con yX11_cores wsX11_cores (rm_d 16) l0_B [.ref 0, .int x1, .int x2] h (some (.int r)) h2 := by
  have hn11 : ∀ w ∈ wsX110, w ∈ wsX11_cores := (fun _ hw => (List.mem_cons_of_mem _ (List.mem_append_left _ (List.mem_append_left _ (List.mem_append_right _ hw)))))
  refine con_i (ty := .int) (cc := cX11_cores) (nL := 3) (by decide) rfl (Nat.le_of_ble_eq_true rfl) ?_
  intro C hC hret
  change Go l0_B C 0 0 0 [(0, .ref 0), (1, .int x1), (2, .int x2)] [] h
  unfold f_X11_cores at hf
  refine go_aload_n hC dX11_cores_0 rfl 0 rfl ?_
  refine go_getr hC (j := 2) (idx := 28) (nm := "plot") (ds := "LLampWays$House;") (b_0 _) rfl rfl hn11 (Nat.le_of_ble_eq_true rfl) rfl rfl (List.mem_cons_of_mem _ (List.mem_append_left _ (List.mem_append_left _ (List.mem_append_left _ (List.mem_append_left _ (List.mem_of_getElem? (i := 0) rfl)))))) (Or.inl rfl) dX11_cores_1 ?_
  refine go_iload_n hC dX11_cores_4 rfl 1 rfl ?_
  obtain ⟨r_1, hc, hf⟩ := bd_e1 hf
  refine go_callV hC (c_X3_isPlace x1 h r_1 hc) gX11_cores_X3_isPlace rfl ⟨rfl, rfl⟩ 1 e_X3_isPlace ⟨Nat.le_of_ble_eq_true rfl, Nat.le_of_ble_eq_true rfl⟩ (b_10 _) rfl rfl (st := []) (st1 := [.int r_1]) rfl rfl (Nat.le_of_ble_eq_true rfl) ⟨Nat.zero_le _, Nat.zero_le _⟩ dX11_cores_5 ?_
  refine go_if_ne hC dX11_cores_8 (tgt := 13) (by decide) (fun c_7 => ?_) (fun c_7 => ?_)
  · replace hf := if_f c_7 hf
    refine go_aload_n hC dX11_cores_13 rfl 0 rfl ?_
    refine go_iload_n hC dX11_cores_14 rfl 2 rfl ?_
    obtain ⟨r_2, hc, hf⟩ := bd_e1 hf
    refine go_callV hC (c_X11_isSetOfDoors x2 h r_2 hc) gX11_cores_X11_isSetOfDoors rfl ⟨rfl, rfl⟩ 1 e_X11_isSetOfDoors ⟨Nat.le_of_ble_eq_true rfl, Nat.le_of_ble_eq_true rfl⟩ (b_0 _) rfl rfl (st := []) (st1 := [.int r_2]) rfl rfl (Nat.le_of_ble_eq_true rfl) ⟨Nat.zero_le _, Nat.zero_le _⟩ dX11_cores_15 ?_
    refine go_if_eq hC dX11_cores_18 (tgt := 40) (by decide) (fun c_6 => ?_) (fun c_6 => ?_)
    · replace hf := if_t c_6 hf
      refine go_bipush hC dX11_cores_40 k8_m2 ?_
      obtain ⟨rfl, rfl⟩ := so_2 hf
      exact hret _ _ rfl dX11_cores_42
    · replace hf := if_f c_6 hf
      refine go_aload_n hC dX11_cores_21 rfl 0 rfl ?_
      refine go_getr hC (j := 8) (idx := 62) (nm := "doors") (ds := "LLampWays$Doors;") (b_0 _) rfl rfl hn11 (Nat.le_of_ble_eq_true rfl) rfl rfl (List.mem_cons_of_mem _ (List.mem_append_left _ (List.mem_append_left _ (List.mem_append_left _ (List.mem_append_left _ (List.mem_of_getElem? (i := 1) rfl)))))) (Or.inl rfl) dX11_cores_22 ?_
      refine go_aload_n hC dX11_cores_25 rfl 0 rfl ?_
      refine go_getr hC (j := 2) (idx := 28) (nm := "plot") (ds := "LLampWays$House;") (b_0 _) rfl rfl hn11 (Nat.le_of_ble_eq_true rfl) rfl rfl (List.mem_cons_of_mem _ (List.mem_append_left _ (List.mem_append_left _ (List.mem_append_left _ (List.mem_append_left _ (List.mem_of_getElem? (i := 0) rfl)))))) (Or.inl rfl) dX11_cores_26 ?_
      refine go_iload_n hC dX11_cores_29 rfl 1 rfl ?_
      refine go_iload_n hC dX11_cores_30 rfl 2 rfl ?_
      obtain ⟨r_3, h_4, hc, hf⟩ := bd_e2 hf
      refine go_callV hC (c_X2_fewestCores x1 x2 h h_4 r_3 hc) gX11_cores_X2_fewestCores rfl ⟨rfl, rfl⟩ 3 e_X2_fewestCores ⟨Nat.le_of_ble_eq_true rfl, Nat.le_of_ble_eq_true rfl⟩ (b_34 _) rfl rfl (st := []) (st1 := [.int r_3]) rfl rfl (Nat.le_of_ble_eq_true rfl) ⟨Nat.zero_le _, Nat.zero_le _⟩ dX11_cores_31 ?_
      obtain ⟨r_5, hc, hf⟩ := bd_e1 hf
      refine go_callS hC (c_X11_yardsOrNone r_3 h_4 r_5 hc) gX11_cores_X11_yardsOrNone rfl ⟨rfl, rfl⟩ 1 e_X11_yardsOrNone ⟨Nat.le_of_ble_eq_true rfl, Nat.le_of_ble_eq_true rfl⟩ rfl (st := []) (st1 := [.int r_5]) rfl rfl (Nat.le_of_ble_eq_true rfl) ⟨Nat.zero_le _, Nat.zero_le _⟩ dX11_cores_34 ?_
      refine go_goto hC dX11_cores_37 (tgt := 42) (by decide) ?_
      obtain ⟨rfl, rfl⟩ := so_2 hf
      exact hret _ _ rfl dX11_cores_42
  · replace hf := if_t c_7 hf
    refine go_iconst hC dX11_cores_11 k1_m1 ?_
    obtain ⟨rfl, rfl⟩ := so_2 hf
    exact hret _ _ rfl dX11_cores_12
def f_X11_door (x1 : Int32) (x2 : Int32) (x3 : Int32) (h : PH) : Option (Int32 × PH) :=
  bd_1 (f_X3_isPlace x1 h) fun r_1 =>
  if r_1 = 0 then (
  some ((-1), h))
  else (
  bd_1 (f_X11_isSetOfDoors x2 h) fun r_2 =>
  if r_2 = 0 then (
  some ((-2), h))
  else (
  if x3 < 0 then (
  some ((-1), h))
  else (
  if x3 < 4 then (
  bd_2 (f_X2_fewestCores x1 x2 h) fun r_3 h_4 =>
  if 1000000 ≤ r_3 then (
  some ((-9), h_4))
  else (
  bd_1 (f_J6_bitCount_0f7a4 x2 h_4) fun r_5 =>
  if x3 < r_5 then (
  ga_i x3 4 (
  some (h_4.1 35 x3.toNatClampNeg, h_4)))
  else (
  some ((-9), h_4))))
  else (
  some ((-1), h)))))
theorem e_X11_door : yX11_door.cls = RX11 ∧ yX11_door.cls ≠ "java/lang/invoke/MethodHandle" ∧ yX11_door.cls ≠ "java/lang/invoke/VarHandle" ∧ (parseMethodDescriptor yX11_door.desc).map (fun d => d.parameters.length) = some 3 := by decide +kernel
set_option maxRecDepth 100000 in
set_option maxHeartbeats 4000000 in
theorem c_X11_door (x1 : Int32) (x2 : Int32) (x3 : Int32) (h : PH) (h2 : PH) (r : Int32) (hf : f_X11_door x1 x2 x3 h = some (r, h2)) : Con yX11_door wsX11_door (rm_d 16) l0_B [.ref 0, .int x1, .int x2, .int x3] h (some (.int r)) h2 := by
  have hn11 : ∀ w ∈ wsX110, w ∈ wsX11_door := (fun _ hw => (List.mem_cons_of_mem _ (List.mem_append_left _ (List.mem_append_left _ (List.mem_append_right _ hw)))))
  have hn2 : ∀ w ∈ wsX20, w ∈ wsX11_door := (fun _ hw => (List.mem_cons_of_mem _ (List.mem_append_left _ (List.mem_append_right _ hw))))
  refine con_i (ty := .int) (cc := cX11_door) (nL := 4) (by decide) rfl (Nat.le_of_ble_eq_true rfl) ?_
  intro C hC hret
  change Go l0_B C 0 0 0 [(0, .ref 0), (1, .int x1), (2, .int x2), (3, .int x3)] [] h
  unfold f_X11_door at hf
  refine go_aload_n hC dX11_door_0 rfl 0 rfl ?_
  refine go_getr hC (j := 2) (idx := 28) (nm := "plot") (ds := "LLampWays$House;") (b_0 _) rfl rfl hn11 (Nat.le_of_ble_eq_true rfl) rfl rfl (List.mem_cons_of_mem _ (List.mem_append_left _ (List.mem_append_left _ (List.mem_append_left _ (List.mem_append_left _ (List.mem_of_getElem? (i := 0) rfl)))))) (Or.inl rfl) dX11_door_1 ?_
  refine go_iload_n hC dX11_door_4 rfl 1 rfl ?_
  obtain ⟨r_1, hc, hf⟩ := bd_e1 hf
  refine go_callV hC (c_X3_isPlace x1 h r_1 hc) gX11_door_X3_isPlace rfl ⟨rfl, rfl⟩ 1 e_X3_isPlace ⟨Nat.le_of_ble_eq_true rfl, Nat.le_of_ble_eq_true rfl⟩ (b_10 _) rfl rfl (st := []) (st1 := [.int r_1]) rfl rfl (Nat.le_of_ble_eq_true rfl) ⟨Nat.zero_le _, Nat.zero_le _⟩ dX11_door_5 ?_
  refine go_if_ne hC dX11_door_8 (tgt := 13) (by decide) (fun c_12 => ?_) (fun c_12 => ?_)
  · replace hf := if_f c_12 hf
    refine go_aload_n hC dX11_door_13 rfl 0 rfl ?_
    refine go_iload_n hC dX11_door_14 rfl 2 rfl ?_
    obtain ⟨r_2, hc, hf⟩ := bd_e1 hf
    refine go_callV hC (c_X11_isSetOfDoors x2 h r_2 hc) gX11_door_X11_isSetOfDoors rfl ⟨rfl, rfl⟩ 1 e_X11_isSetOfDoors ⟨Nat.le_of_ble_eq_true rfl, Nat.le_of_ble_eq_true rfl⟩ (b_0 _) rfl rfl (st := []) (st1 := [.int r_2]) rfl rfl (Nat.le_of_ble_eq_true rfl) ⟨Nat.zero_le _, Nat.zero_le _⟩ dX11_door_15 ?_
    refine go_if_ne hC dX11_door_18 (tgt := 24) (by decide) (fun c_11 => ?_) (fun c_11 => ?_)
    · replace hf := if_f c_11 hf
      refine go_iload_n hC dX11_door_24 rfl 3 rfl ?_
      refine go_if_lt hC dX11_door_25 (tgt := 33) (by decide) (fun c_10 => ?_) (fun c_10 => ?_)
      · replace hf := if_t c_10 hf
        refine go_iconst hC dX11_door_33 k1_m1 ?_
        obtain ⟨rfl, rfl⟩ := so_2 hf
        exact hret _ _ rfl dX11_door_34
      · replace hf := if_f c_10 hf
        refine go_iload_n hC dX11_door_28 rfl 3 rfl ?_
        refine go_iconst hC dX11_door_29 k1_4 ?_
        refine go_icmp_lt hC dX11_door_30 (tgt := 35) (by decide) (fun c_9 => ?_) (fun c_9 => ?_)
        · replace hf := if_t c_9 hf
          refine go_aload_n hC dX11_door_35 rfl 0 rfl ?_
          refine go_getr hC (j := 8) (idx := 62) (nm := "doors") (ds := "LLampWays$Doors;") (b_0 _) rfl rfl hn11 (Nat.le_of_ble_eq_true rfl) rfl rfl (List.mem_cons_of_mem _ (List.mem_append_left _ (List.mem_append_left _ (List.mem_append_left _ (List.mem_append_left _ (List.mem_of_getElem? (i := 1) rfl)))))) (Or.inl rfl) dX11_door_36 ?_
          refine go_aload_n hC dX11_door_39 rfl 0 rfl ?_
          refine go_getr hC (j := 2) (idx := 28) (nm := "plot") (ds := "LLampWays$House;") (b_0 _) rfl rfl hn11 (Nat.le_of_ble_eq_true rfl) rfl rfl (List.mem_cons_of_mem _ (List.mem_append_left _ (List.mem_append_left _ (List.mem_append_left _ (List.mem_append_left _ (List.mem_of_getElem? (i := 0) rfl)))))) (Or.inl rfl) dX11_door_40 ?_
          refine go_iload_n hC dX11_door_43 rfl 1 rfl ?_
          refine go_iload_n hC dX11_door_44 rfl 2 rfl ?_
          obtain ⟨r_3, h_4, hc, hf⟩ := bd_e2 hf
          refine go_callV hC (c_X2_fewestCores x1 x2 h h_4 r_3 hc) gX11_door_X2_fewestCores rfl ⟨rfl, rfl⟩ 3 e_X2_fewestCores ⟨Nat.le_of_ble_eq_true rfl, Nat.le_of_ble_eq_true rfl⟩ (b_34 _) rfl rfl (st := []) (st1 := [.int r_3]) rfl rfl (Nat.le_of_ble_eq_true rfl) ⟨Nat.zero_le _, Nat.zero_le _⟩ dX11_door_45 ?_
          refine go_ldcw hC (v := 1000000) (List.mem_cons_of_mem _ (List.mem_append_left _ (List.mem_append_left _ (List.mem_append_left _ (List.mem_append_left _ (List.mem_of_getElem? (i := 2) rfl)))))) dX11_door_48 ?_
          refine go_icmp_ge hC dX11_door_51 (tgt := 62) (by decide) (fun c_8 => ?_) (fun c_8 => ?_)
          · replace hf := if_t c_8 hf
            refine go_bipush hC dX11_door_62 k8_m9 ?_
            obtain ⟨rfl, rfl⟩ := so_2 hf
            exact hret _ _ rfl dX11_door_64
          · replace hf := if_f c_8 hf
            refine go_iload_n hC dX11_door_54 rfl 3 rfl ?_
            refine go_iload_n hC dX11_door_55 rfl 2 rfl ?_
            obtain ⟨r_5, hc, hf⟩ := bd_e1 hf
            refine go_callS hC (c_J6_bitCount_0f7a4 x2 h_4 r_5 hc) gX11_door_J6_bitCount_0f7a4 rfl ⟨rfl, rfl⟩ 1 e_J6_bitCount_0f7a4 ⟨Nat.le_of_ble_eq_true rfl, Nat.le_of_ble_eq_true rfl⟩ rfl (st := [.int x3]) (st1 := [.int r_5, .int x3]) rfl rfl (Nat.le_of_ble_eq_true rfl) ⟨Nat.zero_le _, Nat.zero_le _⟩ dX11_door_56 ?_
            refine go_icmp_lt hC dX11_door_59 (tgt := 65) (by decide) (fun c_7 => ?_) (fun c_7 => ?_)
            · replace hf := if_t c_7 hf
              refine go_aload_n hC dX11_door_65 rfl 0 rfl ?_
              refine go_getr hC (j := 8) (idx := 62) (nm := "doors") (ds := "LLampWays$Doors;") (b_0 _) rfl rfl hn11 (Nat.le_of_ble_eq_true rfl) rfl rfl (List.mem_cons_of_mem _ (List.mem_append_left _ (List.mem_append_left _ (List.mem_append_left _ (List.mem_append_left _ (List.mem_of_getElem? (i := 1) rfl)))))) (Or.inl rfl) dX11_door_66 ?_
              refine go_getr hC (j := 0) (idx := 310) (nm := "firstRow") (ds := "[I") (b_34 _) rfl rfl hn2 (Nat.le_of_ble_eq_true rfl) rfl rfl (List.mem_cons_of_mem _ (List.mem_append_left _ (List.mem_append_left _ (List.mem_append_left _ (List.mem_append_left _ (List.mem_of_getElem? (i := 3) rfl)))))) (Or.inl rfl) dX11_door_69 ?_
              refine go_iload_n hC dX11_door_72 rfl 3 rfl ?_
              obtain ⟨g_6, hf⟩ := ga_e hf
              refine go_iald hC (b_35 _) g_6 dX11_door_73 ?_
              obtain ⟨rfl, rfl⟩ := so_2 hf
              exact hret _ _ rfl dX11_door_74
            · replace hf := if_f c_7 hf
              refine go_bipush hC dX11_door_62 k8_m9 ?_
              obtain ⟨rfl, rfl⟩ := so_2 hf
              exact hret _ _ rfl dX11_door_64
        · replace hf := if_f c_9 hf
          refine go_iconst hC dX11_door_33 k1_m1 ?_
          obtain ⟨rfl, rfl⟩ := so_2 hf
          exact hret _ _ rfl dX11_door_34
    · replace hf := if_t c_11 hf
      refine go_bipush hC dX11_door_21 k8_m2 ?_
      obtain ⟨rfl, rfl⟩ := so_2 hf
      exact hret _ _ rfl dX11_door_23
  · replace hf := if_t c_12 hf
    refine go_iconst hC dX11_door_11 k1_m1 ?_
    obtain ⟨rfl, rfl⟩ := so_2 hf
    exact hret _ _ rfl dX11_door_12
def f_X11_reading (x1 : Int32) (x2 : Int32) (h : PH) : Option (Int32 × PH) :=
  bd_1 (f_X11_isSetOfPoints x1 h) fun r_1 =>
  if r_1 = 0 then (
  some ((-2), h))
  else (
  if x2 < 0 then (
  some ((-2), h))
  else (
  if x2 ≤ 200 then (
  if (h.1 37 0) < 12 then (
  bd_2 (f_X4_add x1 x2 h) fun r_2 h_3 =>
  some (r_2, h_3))
  else (
  some ((-4), h)))
  else (
  some ((-2), h))))
theorem e_X11_reading : yX11_reading.cls = RX11 ∧ yX11_reading.cls ≠ "java/lang/invoke/MethodHandle" ∧ yX11_reading.cls ≠ "java/lang/invoke/VarHandle" ∧ (parseMethodDescriptor yX11_reading.desc).map (fun d => d.parameters.length) = some 2 := by decide +kernel
set_option maxRecDepth 100000 in
set_option maxHeartbeats 4000000 in
theorem c_X11_reading (x1 : Int32) (x2 : Int32) (h : PH) (h2 : PH) (r : Int32) (hf : f_X11_reading x1 x2 h = some (r, h2)) : Con yX11_reading wsX11_reading (rm_d 2) l0_B [.ref 0, .int x1, .int x2] h (some (.int r)) h2 := by
  have hn11 : ∀ w ∈ wsX110, w ∈ wsX11_reading := (fun _ hw => (List.mem_cons_of_mem _ (List.mem_append_left _ (List.mem_append_left _ (List.mem_append_right _ hw)))))
  have hn4 : ∀ w ∈ wsX40, w ∈ wsX11_reading := (fun _ hw => (List.mem_cons_of_mem _ (List.mem_append_left _ (List.mem_append_right _ hw))))
  refine con_i (ty := .int) (cc := cX11_reading) (nL := 3) (by decide) rfl (Nat.le_of_ble_eq_true rfl) ?_
  intro C hC hret
  change Go l0_B C 0 0 0 [(0, .ref 0), (1, .int x1), (2, .int x2)] [] h
  unfold f_X11_reading at hf
  refine go_aload_n hC dX11_reading_0 rfl 0 rfl ?_
  refine go_iload_n hC dX11_reading_1 rfl 1 rfl ?_
  obtain ⟨r_1, hc, hf⟩ := bd_e1 hf
  refine go_callV hC (c_X11_isSetOfPoints x1 h r_1 hc) gX11_reading_X11_isSetOfPoints rfl ⟨rfl, rfl⟩ 1 e_X11_isSetOfPoints ⟨Nat.le_of_ble_eq_true rfl, Nat.le_of_ble_eq_true rfl⟩ (b_0 _) rfl rfl (st := []) (st1 := [.int r_1]) rfl rfl (Nat.le_of_ble_eq_true rfl) ⟨Nat.zero_le _, Nat.zero_le _⟩ dX11_reading_2 ?_
  refine go_if_eq hC dX11_reading_5 (tgt := 19) (by decide) (fun c_7 => ?_) (fun c_7 => ?_)
  · replace hf := if_t c_7 hf
    refine go_bipush hC dX11_reading_19 k8_m2 ?_
    obtain ⟨rfl, rfl⟩ := so_2 hf
    exact hret _ _ rfl dX11_reading_21
  · replace hf := if_f c_7 hf
    refine go_iload_n hC dX11_reading_8 rfl 2 rfl ?_
    refine go_if_lt hC dX11_reading_9 (tgt := 19) (by decide) (fun c_6 => ?_) (fun c_6 => ?_)
    · replace hf := if_t c_6 hf
      refine go_bipush hC dX11_reading_19 k8_m2 ?_
      obtain ⟨rfl, rfl⟩ := so_2 hf
      exact hret _ _ rfl dX11_reading_21
    · replace hf := if_f c_6 hf
      refine go_iload_n hC dX11_reading_12 rfl 2 rfl ?_
      refine go_sipush hC dX11_reading_13 k16_200 ?_
      refine go_icmp_le hC dX11_reading_16 (tgt := 22) (by decide) (fun c_5 => ?_) (fun c_5 => ?_)
      · replace hf := if_t c_5 hf
        refine go_aload_n hC dX11_reading_22 rfl 0 rfl ?_
        refine go_getr hC (j := 9) (idx := 69) (nm := "meter") (ds := "LLampWays$Meter;") (b_0 _) rfl rfl hn11 (Nat.le_of_ble_eq_true rfl) rfl rfl (List.mem_cons_of_mem _ (List.mem_append_left _ (List.mem_append_left _ (List.mem_append_left _ (List.mem_of_getElem? (i := 0) rfl))))) (Or.inl rfl) dX11_reading_23 ?_
        refine go_geti hC (j := 0) (idx := 118) (nm := "count") (ds := "I") (b_37 _) rfl rfl hn4 (Nat.le_of_ble_eq_true rfl) rfl rfl (List.mem_cons_of_mem _ (List.mem_append_left _ (List.mem_append_left _ (List.mem_append_left _ (List.mem_of_getElem? (i := 1) rfl))))) (Or.inl rfl) dX11_reading_26 ?_
        refine go_bipush hC dX11_reading_29 k8_12 ?_
        refine go_icmp_lt hC dX11_reading_31 (tgt := 39) (by decide) (fun c_4 => ?_) (fun c_4 => ?_)
        · replace hf := if_t c_4 hf
          refine go_aload_n hC dX11_reading_39 rfl 0 rfl ?_
          refine go_getr hC (j := 9) (idx := 69) (nm := "meter") (ds := "LLampWays$Meter;") (b_0 _) rfl rfl hn11 (Nat.le_of_ble_eq_true rfl) rfl rfl (List.mem_cons_of_mem _ (List.mem_append_left _ (List.mem_append_left _ (List.mem_append_left _ (List.mem_of_getElem? (i := 0) rfl))))) (Or.inl rfl) dX11_reading_40 ?_
          refine go_iload_n hC dX11_reading_43 rfl 1 rfl ?_
          refine go_iload_n hC dX11_reading_44 rfl 2 rfl ?_
          obtain ⟨r_2, h_3, hc, hf⟩ := bd_e2 hf
          refine go_callV hC (c_X4_add x1 x2 h h_3 r_2 hc) gX11_reading_X4_add rfl ⟨rfl, rfl⟩ 2 e_X4_add ⟨Nat.le_of_ble_eq_true rfl, Nat.le_of_ble_eq_true rfl⟩ (b_37 _) rfl rfl (st := []) (st1 := [.int r_2]) rfl rfl (Nat.le_of_ble_eq_true rfl) ⟨Nat.zero_le _, Nat.zero_le _⟩ dX11_reading_45 ?_
          obtain ⟨rfl, rfl⟩ := so_2 hf
          exact hret _ _ rfl dX11_reading_48
        · replace hf := if_f c_4 hf
          refine go_bipush hC dX11_reading_34 k8_m4 ?_
          refine go_goto hC dX11_reading_36 (tgt := 48) (by decide) ?_
          obtain ⟨rfl, rfl⟩ := so_2 hf
          exact hret _ _ rfl dX11_reading_48
      · replace hf := if_f c_5 hf
        refine go_bipush hC dX11_reading_19 k8_m2 ?_
        obtain ⟨rfl, rfl⟩ := so_2 hf
        exact hret _ _ rfl dX11_reading_21
def f_X11_back (x1 : Int32) (h : PH) : Option (Int32 × PH) :=
  if x1 < 0 then (
  some ((-2), h))
  else (
  if x1 ≤ (h.1 37 0) then (
  lt_b (ph_i h 37 0 ((h.1 37 0) - x1)) fun h_1 =>
  some (h_1.1 37 0, h_1))
  else (
  some ((-2), h)))
theorem e_X11_back : yX11_back.cls = RX11 ∧ yX11_back.cls ≠ "java/lang/invoke/MethodHandle" ∧ yX11_back.cls ≠ "java/lang/invoke/VarHandle" ∧ (parseMethodDescriptor yX11_back.desc).map (fun d => d.parameters.length) = some 1 := by decide +kernel
set_option maxRecDepth 100000 in
set_option maxHeartbeats 4000000 in
theorem c_X11_back (x1 : Int32) (h : PH) (h2 : PH) (r : Int32) (hf : f_X11_back x1 h = some (r, h2)) : Con yX11_back wsX11_back (rm_d 0) l0_B [.ref 0, .int x1] h (some (.int r)) h2 := by
  have hn11 : ∀ w ∈ wsX110, w ∈ wsX11_back := (fun _ hw => (List.mem_cons_of_mem _ (List.mem_append_left _ (List.mem_append_right _ hw))))
  have hn4 : ∀ w ∈ wsX40, w ∈ wsX11_back := (fun _ hw => (List.mem_cons_of_mem _ (List.mem_append_right _ hw)))
  refine con_i (ty := .int) (cc := cX11_back) (nL := 2) (by decide) rfl (Nat.le_of_ble_eq_true rfl) ?_
  intro C hC hret
  change Go l0_B C 0 0 0 [(0, .ref 0), (1, .int x1)] [] h
  unfold f_X11_back at hf
  refine go_iload_n hC dX11_back_0 rfl 1 rfl ?_
  refine go_if_lt hC dX11_back_1 (tgt := 15) (by decide) (fun c_3 => ?_) (fun c_3 => ?_)
  · replace hf := if_t c_3 hf
    refine go_bipush hC dX11_back_15 k8_m2 ?_
    obtain ⟨rfl, rfl⟩ := so_2 hf
    exact hret _ _ rfl dX11_back_17
  · replace hf := if_f c_3 hf
    refine go_iload_n hC dX11_back_4 rfl 1 rfl ?_
    refine go_aload_n hC dX11_back_5 rfl 0 rfl ?_
    refine go_getr hC (j := 9) (idx := 69) (nm := "meter") (ds := "LLampWays$Meter;") (b_0 _) rfl rfl hn11 (Nat.le_of_ble_eq_true rfl) rfl rfl (List.mem_cons_of_mem _ (List.mem_append_left _ (List.mem_append_left _ (List.mem_of_getElem? (i := 0) rfl)))) (Or.inl rfl) dX11_back_6 ?_
    refine go_geti hC (j := 0) (idx := 118) (nm := "count") (ds := "I") (b_37 _) rfl rfl hn4 (Nat.le_of_ble_eq_true rfl) rfl rfl (List.mem_cons_of_mem _ (List.mem_append_left _ (List.mem_append_left _ (List.mem_of_getElem? (i := 1) rfl)))) (Or.inl rfl) dX11_back_9 ?_
    refine go_icmp_le hC dX11_back_12 (tgt := 18) (by decide) (fun c_2 => ?_) (fun c_2 => ?_)
    · replace hf := if_t c_2 hf
      refine go_aload_n hC dX11_back_18 rfl 0 rfl ?_
      refine go_getr hC (j := 9) (idx := 69) (nm := "meter") (ds := "LLampWays$Meter;") (b_0 _) rfl rfl hn11 (Nat.le_of_ble_eq_true rfl) rfl rfl (List.mem_cons_of_mem _ (List.mem_append_left _ (List.mem_append_left _ (List.mem_of_getElem? (i := 0) rfl)))) (Or.inl rfl) dX11_back_19 ?_
      refine go_dup hC dX11_back_22 rfl ?_
      refine go_geti hC (j := 0) (idx := 118) (nm := "count") (ds := "I") (b_37 _) rfl rfl hn4 (Nat.le_of_ble_eq_true rfl) rfl rfl (List.mem_cons_of_mem _ (List.mem_append_left _ (List.mem_append_left _ (List.mem_of_getElem? (i := 1) rfl)))) (Or.inl rfl) dX11_back_23 ?_
      refine go_iload_n hC dX11_back_26 rfl 1 rfl ?_
      refine go_isub hC dX11_back_27 ?_
      obtain ⟨h_1, eh_1, hf⟩ := lt_e hf
      refine go_puti hC tyX4 (j := 0) (idx := 118) (nm := "count") (ds := "I") (b_37 _) rfl rfl hn4 tyX4_ok nmX4 (Nat.le_of_ble_eq_true rfl) rfl rfl (List.mem_cons_of_mem _ (List.mem_append_left _ (List.mem_append_left _ (List.mem_of_getElem? (i := 1) rfl)))) (Or.inl rfl) rfl (tyX4_ok _ (Nat.le_of_ble_eq_true rfl)) dX11_back_28 ?_
      refine go_toph eh_1 ?_
      refine go_aload_n hC dX11_back_31 rfl 0 rfl ?_
      refine go_getr hC (j := 9) (idx := 69) (nm := "meter") (ds := "LLampWays$Meter;") (b_0 _) rfl rfl hn11 (Nat.le_of_ble_eq_true rfl) rfl rfl (List.mem_cons_of_mem _ (List.mem_append_left _ (List.mem_append_left _ (List.mem_of_getElem? (i := 0) rfl)))) (Or.inl rfl) dX11_back_32 ?_
      refine go_geti hC (j := 0) (idx := 118) (nm := "count") (ds := "I") (b_37 _) rfl rfl hn4 (Nat.le_of_ble_eq_true rfl) rfl rfl (List.mem_cons_of_mem _ (List.mem_append_left _ (List.mem_append_left _ (List.mem_of_getElem? (i := 1) rfl)))) (Or.inl rfl) dX11_back_35 ?_
      obtain ⟨rfl, rfl⟩ := so_2 hf
      exact hret _ _ rfl dX11_back_38
    · replace hf := if_f c_2 hf
      refine go_bipush hC dX11_back_15 k8_m2 ?_
      obtain ⟨rfl, rfl⟩ := so_2 hf
      exact hret _ _ rfl dX11_back_17
def f_X11_fits (x1 : Int32) (h : PH) : Option (Int32 × PH) :=
  if x1 < 0 then (
  some ((-2), h))
  else (
  if x1 ≤ 2 then (
  bd_2 (f_X4_weigh h) fun r_1 h_2 =>
  if x1 = 0 then (
  some (h_2.1 37 1, h_2))
  else (
  if x1 = 1 then (
  bd_1 (f_X4_ofAll (h_2.1 17 0) h_2) fun r_4 =>
  some (r_4, h_2))
  else (
  bd_1 (f_X4_ofNone (h_2.1 17 0) h_2) fun r_3 =>
  some (r_3, h_2))))
  else (
  some ((-2), h)))
theorem e_X11_fits : yX11_fits.cls = RX11 ∧ yX11_fits.cls ≠ "java/lang/invoke/MethodHandle" ∧ yX11_fits.cls ≠ "java/lang/invoke/VarHandle" ∧ (parseMethodDescriptor yX11_fits.desc).map (fun d => d.parameters.length) = some 1 := by decide +kernel
set_option maxRecDepth 100000 in
set_option maxHeartbeats 4000000 in
theorem c_X11_fits (x1 : Int32) (h : PH) (h2 : PH) (r : Int32) (hf : f_X11_fits x1 h = some (r, h2)) : Con yX11_fits wsX11_fits (rm_d 2) l0_B [.ref 0, .int x1] h (some (.int r)) h2 := by
  have hn11 : ∀ w ∈ wsX110, w ∈ wsX11_fits := (fun _ hw => (List.mem_cons_of_mem _ (List.mem_append_left _ (List.mem_append_left _ (List.mem_append_right _ hw)))))
  have hn4 : ∀ w ∈ wsX40, w ∈ wsX11_fits := (fun _ hw => (List.mem_cons_of_mem _ (List.mem_append_left _ (List.mem_append_right _ hw))))
  have hn6 : ∀ w ∈ wsX60, w ∈ wsX11_fits := (fun _ hw => (List.mem_cons_of_mem _ (List.mem_append_right _ hw)))
  refine con_i (ty := .int) (cc := cX11_fits) (nL := 2) (by decide) rfl (Nat.le_of_ble_eq_true rfl) ?_
  intro C hC hret
  change Go l0_B C 0 0 0 [(0, .ref 0), (1, .int x1)] [] h
  unfold f_X11_fits at hf
  refine go_iload_n hC dX11_fits_0 rfl 1 rfl ?_
  refine go_if_lt hC dX11_fits_1 (tgt := 9) (by decide) (fun c_8 => ?_) (fun c_8 => ?_)
  · replace hf := if_t c_8 hf
    refine go_bipush hC dX11_fits_9 k8_m2 ?_
    obtain ⟨rfl, rfl⟩ := so_2 hf
    exact hret _ _ rfl dX11_fits_11
  · replace hf := if_f c_8 hf
    refine go_iload_n hC dX11_fits_4 rfl 1 rfl ?_
    refine go_iconst hC dX11_fits_5 k1_2 ?_
    refine go_icmp_le hC dX11_fits_6 (tgt := 12) (by decide) (fun c_7 => ?_) (fun c_7 => ?_)
    · replace hf := if_t c_7 hf
      refine go_aload_n hC dX11_fits_12 rfl 0 rfl ?_
      refine go_getr hC (j := 9) (idx := 69) (nm := "meter") (ds := "LLampWays$Meter;") (b_0 _) rfl rfl hn11 (Nat.le_of_ble_eq_true rfl) rfl rfl (List.mem_cons_of_mem _ (List.mem_append_left _ (List.mem_append_left _ (List.mem_append_left _ (List.mem_append_left _ (List.mem_of_getElem? (i := 0) rfl)))))) (Or.inl rfl) dX11_fits_13 ?_
      refine go_aload_n hC dX11_fits_16 rfl 0 rfl ?_
      refine go_getr hC (j := 3) (idx := 35) (nm := "points") (ds := "LLampWays$Points;") (b_0 _) rfl rfl hn11 (Nat.le_of_ble_eq_true rfl) rfl rfl (List.mem_cons_of_mem _ (List.mem_append_left _ (List.mem_append_left _ (List.mem_append_left _ (List.mem_append_left _ (List.mem_of_getElem? (i := 1) rfl)))))) (Or.inl rfl) dX11_fits_17 ?_
      obtain ⟨r_1, h_2, hc, hf⟩ := bd_e2 hf
      refine go_callV hC (c_X4_weigh h h_2 hc) gX11_fits_X4_weigh rfl ⟨rfl, rfl⟩ 1 e_X4_weigh ⟨Nat.le_of_ble_eq_true rfl, Nat.le_of_ble_eq_true rfl⟩ (b_37 _) rfl rfl (st := []) (st1 := []) rfl rfl (Nat.le_of_ble_eq_true rfl) ⟨Nat.zero_le _, Nat.zero_le _⟩ dX11_fits_20 ?_
      refine go_iload_n hC dX11_fits_23 rfl 1 rfl ?_
      refine go_if_ne hC dX11_fits_24 (tgt := 35) (by decide) (fun c_6 => ?_) (fun c_6 => ?_)
      · replace hf := if_f c_6 hf
        refine go_iload_n hC dX11_fits_35 rfl 1 rfl ?_
        refine go_iconst hC dX11_fits_36 k1_1 ?_
        refine go_icmp_ne hC dX11_fits_37 (tgt := 57) (by decide) (fun c_5 => ?_) (fun c_5 => ?_)
        · replace hf := if_f c_5 hf
          refine go_aload_n hC dX11_fits_57 rfl 0 rfl ?_
          refine go_getr hC (j := 9) (idx := 69) (nm := "meter") (ds := "LLampWays$Meter;") (b_0 _) rfl rfl hn11 (Nat.le_of_ble_eq_true rfl) rfl rfl (List.mem_cons_of_mem _ (List.mem_append_left _ (List.mem_append_left _ (List.mem_append_left _ (List.mem_append_left _ (List.mem_of_getElem? (i := 0) rfl)))))) (Or.inl rfl) dX11_fits_58 ?_
          refine go_aload_n hC dX11_fits_61 rfl 0 rfl ?_
          refine go_getr hC (j := 3) (idx := 35) (nm := "points") (ds := "LLampWays$Points;") (b_0 _) rfl rfl hn11 (Nat.le_of_ble_eq_true rfl) rfl rfl (List.mem_cons_of_mem _ (List.mem_append_left _ (List.mem_append_left _ (List.mem_append_left _ (List.mem_append_left _ (List.mem_of_getElem? (i := 1) rfl)))))) (Or.inl rfl) dX11_fits_62 ?_
          refine go_geti hC (j := 0) (idx := 115) (nm := "count") (ds := "I") (b_17 _) rfl rfl hn6 (Nat.le_of_ble_eq_true rfl) rfl rfl (List.mem_cons_of_mem _ (List.mem_append_left _ (List.mem_append_left _ (List.mem_append_left _ (List.mem_append_left _ (List.mem_of_getElem? (i := 3) rfl)))))) (Or.inl rfl) dX11_fits_65 ?_
          obtain ⟨r_3, hc, hf⟩ := bd_e1 hf
          refine go_callV hC (c_X4_ofNone (h_2.1 17 0) h_2 r_3 hc) gX11_fits_X4_ofNone rfl ⟨rfl, rfl⟩ 1 e_X4_ofNone ⟨Nat.le_of_ble_eq_true rfl, Nat.le_of_ble_eq_true rfl⟩ (b_37 _) rfl rfl (st := []) (st1 := [.int r_3]) rfl rfl (Nat.le_of_ble_eq_true rfl) ⟨Nat.zero_le _, Nat.zero_le _⟩ dX11_fits_68 ?_
          obtain ⟨rfl, rfl⟩ := so_2 hf
          exact hret _ _ rfl dX11_fits_71
        · replace hf := if_t c_5 hf
          refine go_aload_n hC dX11_fits_40 rfl 0 rfl ?_
          refine go_getr hC (j := 9) (idx := 69) (nm := "meter") (ds := "LLampWays$Meter;") (b_0 _) rfl rfl hn11 (Nat.le_of_ble_eq_true rfl) rfl rfl (List.mem_cons_of_mem _ (List.mem_append_left _ (List.mem_append_left _ (List.mem_append_left _ (List.mem_append_left _ (List.mem_of_getElem? (i := 0) rfl)))))) (Or.inl rfl) dX11_fits_41 ?_
          refine go_aload_n hC dX11_fits_44 rfl 0 rfl ?_
          refine go_getr hC (j := 3) (idx := 35) (nm := "points") (ds := "LLampWays$Points;") (b_0 _) rfl rfl hn11 (Nat.le_of_ble_eq_true rfl) rfl rfl (List.mem_cons_of_mem _ (List.mem_append_left _ (List.mem_append_left _ (List.mem_append_left _ (List.mem_append_left _ (List.mem_of_getElem? (i := 1) rfl)))))) (Or.inl rfl) dX11_fits_45 ?_
          refine go_geti hC (j := 0) (idx := 115) (nm := "count") (ds := "I") (b_17 _) rfl rfl hn6 (Nat.le_of_ble_eq_true rfl) rfl rfl (List.mem_cons_of_mem _ (List.mem_append_left _ (List.mem_append_left _ (List.mem_append_left _ (List.mem_append_left _ (List.mem_of_getElem? (i := 3) rfl)))))) (Or.inl rfl) dX11_fits_48 ?_
          obtain ⟨r_4, hc, hf⟩ := bd_e1 hf
          refine go_callV hC (c_X4_ofAll (h_2.1 17 0) h_2 r_4 hc) gX11_fits_X4_ofAll rfl ⟨rfl, rfl⟩ 1 e_X4_ofAll ⟨Nat.le_of_ble_eq_true rfl, Nat.le_of_ble_eq_true rfl⟩ (b_37 _) rfl rfl (st := []) (st1 := [.int r_4]) rfl rfl (Nat.le_of_ble_eq_true rfl) ⟨Nat.zero_le _, Nat.zero_le _⟩ dX11_fits_51 ?_
          refine go_goto hC dX11_fits_54 (tgt := 71) (by decide) ?_
          obtain ⟨rfl, rfl⟩ := so_2 hf
          exact hret _ _ rfl dX11_fits_71
      · replace hf := if_t c_6 hf
        refine go_aload_n hC dX11_fits_27 rfl 0 rfl ?_
        refine go_getr hC (j := 9) (idx := 69) (nm := "meter") (ds := "LLampWays$Meter;") (b_0 _) rfl rfl hn11 (Nat.le_of_ble_eq_true rfl) rfl rfl (List.mem_cons_of_mem _ (List.mem_append_left _ (List.mem_append_left _ (List.mem_append_left _ (List.mem_append_left _ (List.mem_of_getElem? (i := 0) rfl)))))) (Or.inl rfl) dX11_fits_28 ?_
        refine go_geti hC (j := 1) (idx := 317) (nm := "fitting") (ds := "I") (b_37 _) rfl rfl hn4 (Nat.le_of_ble_eq_true rfl) rfl rfl (List.mem_cons_of_mem _ (List.mem_append_left _ (List.mem_append_left _ (List.mem_append_left _ (List.mem_append_left _ (List.mem_of_getElem? (i := 2) rfl)))))) (Or.inl rfl) dX11_fits_31 ?_
        obtain ⟨rfl, rfl⟩ := so_2 hf
        exact hret _ _ rfl dX11_fits_34
    · replace hf := if_f c_7 hf
      refine go_bipush hC dX11_fits_9 k8_m2 ?_
      obtain ⟨rfl, rfl⟩ := so_2 hf
      exact hret _ _ rfl dX11_fits_11
def f_X11_next (h : PH) : Option (Int32 × PH) :=
  bd_2 (f_X4_weigh h) fun r_1 h_2 =>
  if 1 < (h_2.1 37 1) then (
  bd_1 (f_X4_mostEven (h_2.1 17 0) h_2) fun r_3 =>
  some (r_3, h_2))
  else (
  some ((-9), h_2))
theorem e_X11_next : yX11_next.cls = RX11 ∧ yX11_next.cls ≠ "java/lang/invoke/MethodHandle" ∧ yX11_next.cls ≠ "java/lang/invoke/VarHandle" ∧ (parseMethodDescriptor yX11_next.desc).map (fun d => d.parameters.length) = some 0 := by decide +kernel
set_option maxRecDepth 100000 in
set_option maxHeartbeats 4000000 in
theorem c_X11_next (h : PH) (h2 : PH) (r : Int32) (hf : f_X11_next h = some (r, h2)) : Con yX11_next wsX11_next (rm_d 2) l0_B [.ref 0] h (some (.int r)) h2 := by
  have hn11 : ∀ w ∈ wsX110, w ∈ wsX11_next := (fun _ hw => (List.mem_cons_of_mem _ (List.mem_append_left _ (List.mem_append_left _ (List.mem_append_right _ hw)))))
  have hn4 : ∀ w ∈ wsX40, w ∈ wsX11_next := (fun _ hw => (List.mem_cons_of_mem _ (List.mem_append_left _ (List.mem_append_right _ hw))))
  have hn6 : ∀ w ∈ wsX60, w ∈ wsX11_next := (fun _ hw => (List.mem_cons_of_mem _ (List.mem_append_right _ hw)))
  refine con_i (ty := .int) (cc := cX11_next) (nL := 1) (by decide) rfl (Nat.le_of_ble_eq_true rfl) ?_
  intro C hC hret
  change Go l0_B C 0 0 0 [(0, .ref 0)] [] h
  unfold f_X11_next at hf
  refine go_aload_n hC dX11_next_0 rfl 0 rfl ?_
  refine go_getr hC (j := 9) (idx := 69) (nm := "meter") (ds := "LLampWays$Meter;") (b_0 _) rfl rfl hn11 (Nat.le_of_ble_eq_true rfl) rfl rfl (List.mem_cons_of_mem _ (List.mem_append_left _ (List.mem_append_left _ (List.mem_append_left _ (List.mem_append_left _ (List.mem_of_getElem? (i := 0) rfl)))))) (Or.inl rfl) dX11_next_1 ?_
  refine go_aload_n hC dX11_next_4 rfl 0 rfl ?_
  refine go_getr hC (j := 3) (idx := 35) (nm := "points") (ds := "LLampWays$Points;") (b_0 _) rfl rfl hn11 (Nat.le_of_ble_eq_true rfl) rfl rfl (List.mem_cons_of_mem _ (List.mem_append_left _ (List.mem_append_left _ (List.mem_append_left _ (List.mem_append_left _ (List.mem_of_getElem? (i := 1) rfl)))))) (Or.inl rfl) dX11_next_5 ?_
  obtain ⟨r_1, h_2, hc, hf⟩ := bd_e2 hf
  refine go_callV hC (c_X4_weigh h h_2 hc) gX11_next_X4_weigh rfl ⟨rfl, rfl⟩ 1 e_X4_weigh ⟨Nat.le_of_ble_eq_true rfl, Nat.le_of_ble_eq_true rfl⟩ (b_37 _) rfl rfl (st := []) (st1 := []) rfl rfl (Nat.le_of_ble_eq_true rfl) ⟨Nat.zero_le _, Nat.zero_le _⟩ dX11_next_8 ?_
  refine go_aload_n hC dX11_next_11 rfl 0 rfl ?_
  refine go_getr hC (j := 9) (idx := 69) (nm := "meter") (ds := "LLampWays$Meter;") (b_0 _) rfl rfl hn11 (Nat.le_of_ble_eq_true rfl) rfl rfl (List.mem_cons_of_mem _ (List.mem_append_left _ (List.mem_append_left _ (List.mem_append_left _ (List.mem_append_left _ (List.mem_of_getElem? (i := 0) rfl)))))) (Or.inl rfl) dX11_next_12 ?_
  refine go_geti hC (j := 1) (idx := 317) (nm := "fitting") (ds := "I") (b_37 _) rfl rfl hn4 (Nat.le_of_ble_eq_true rfl) rfl rfl (List.mem_cons_of_mem _ (List.mem_append_left _ (List.mem_append_left _ (List.mem_append_left _ (List.mem_append_left _ (List.mem_of_getElem? (i := 2) rfl)))))) (Or.inl rfl) dX11_next_15 ?_
  refine go_iconst hC dX11_next_18 k1_1 ?_
  refine go_icmp_gt hC dX11_next_19 (tgt := 27) (by decide) (fun c_4 => ?_) (fun c_4 => ?_)
  · replace hf := if_t c_4 hf
    refine go_aload_n hC dX11_next_27 rfl 0 rfl ?_
    refine go_getr hC (j := 9) (idx := 69) (nm := "meter") (ds := "LLampWays$Meter;") (b_0 _) rfl rfl hn11 (Nat.le_of_ble_eq_true rfl) rfl rfl (List.mem_cons_of_mem _ (List.mem_append_left _ (List.mem_append_left _ (List.mem_append_left _ (List.mem_append_left _ (List.mem_of_getElem? (i := 0) rfl)))))) (Or.inl rfl) dX11_next_28 ?_
    refine go_aload_n hC dX11_next_31 rfl 0 rfl ?_
    refine go_getr hC (j := 3) (idx := 35) (nm := "points") (ds := "LLampWays$Points;") (b_0 _) rfl rfl hn11 (Nat.le_of_ble_eq_true rfl) rfl rfl (List.mem_cons_of_mem _ (List.mem_append_left _ (List.mem_append_left _ (List.mem_append_left _ (List.mem_append_left _ (List.mem_of_getElem? (i := 1) rfl)))))) (Or.inl rfl) dX11_next_32 ?_
    refine go_geti hC (j := 0) (idx := 115) (nm := "count") (ds := "I") (b_17 _) rfl rfl hn6 (Nat.le_of_ble_eq_true rfl) rfl rfl (List.mem_cons_of_mem _ (List.mem_append_left _ (List.mem_append_left _ (List.mem_append_left _ (List.mem_append_left _ (List.mem_of_getElem? (i := 3) rfl)))))) (Or.inl rfl) dX11_next_35 ?_
    obtain ⟨r_3, hc, hf⟩ := bd_e1 hf
    refine go_callV hC (c_X4_mostEven (h_2.1 17 0) h_2 r_3 hc) gX11_next_X4_mostEven rfl ⟨rfl, rfl⟩ 1 e_X4_mostEven ⟨Nat.le_of_ble_eq_true rfl, Nat.le_of_ble_eq_true rfl⟩ (b_37 _) rfl rfl (st := []) (st1 := [.int r_3]) rfl rfl (Nat.le_of_ble_eq_true rfl) ⟨Nat.zero_le _, Nat.zero_le _⟩ dX11_next_38 ?_
    obtain ⟨rfl, rfl⟩ := so_2 hf
    exact hret _ _ rfl dX11_next_41
  · replace hf := if_f c_4 hf
    refine go_bipush hC dX11_next_22 k8_m9 ?_
    refine go_goto hC dX11_next_24 (tgt := 41) (by decide) ?_
    obtain ⟨rfl, rfl⟩ := so_2 hf
    exact hret _ _ rfl dX11_next_41
def f_X11_sheet (x1 : Int32) (x2 : Int32) (x3 : Int32) (h : PH) : Option (Int32 × PH) :=
  lt_b (ph_i h 0 11 0) fun h_1 =>
  bd_1 (f_X8_isSheet x1 h_1) fun r_2 =>
  if r_2 = 0 then (
  some ((-1), h_1))
  else (
  bd_1 (f_X8_isLane x2 h_1) fun r_3 =>
  if r_3 = 0 then (
  some ((-2), h_1))
  else (
  if x3 ≤ 100 then (
  if 0 ≤ x3 then (
  bd_2 (f_X8_renew x1 x2 x3 h_1) fun r_4 h_5 =>
  some (1, h_5))
  else (
  bd_2 (f_X11_faulty 4 h_1) fun r_6 h_7 =>
  some (r_6, h_7)))
  else (
  some ((-2), h_1))))
theorem e_X11_sheet : yX11_sheet.cls = RX11 ∧ yX11_sheet.cls ≠ "java/lang/invoke/MethodHandle" ∧ yX11_sheet.cls ≠ "java/lang/invoke/VarHandle" ∧ (parseMethodDescriptor yX11_sheet.desc).map (fun d => d.parameters.length) = some 3 := by decide +kernel
set_option maxRecDepth 100000 in
set_option maxHeartbeats 4000000 in
theorem c_X11_sheet (x1 : Int32) (x2 : Int32) (x3 : Int32) (h : PH) (h2 : PH) (r : Int32) (hf : f_X11_sheet x1 x2 x3 h = some (r, h2)) : Con yX11_sheet wsX11_sheet (rm_d 2) l0_B [.ref 0, .int x1, .int x2, .int x3] h (some (.int r)) h2 := by
  have hn11 : ∀ w ∈ wsX110, w ∈ wsX11_sheet := (fun _ hw => (List.mem_cons_of_mem _ (List.mem_append_left _ (List.mem_append_right _ hw))))
  refine con_i (ty := .int) (cc := cX11_sheet) (nL := 4) (by decide) rfl (Nat.le_of_ble_eq_true rfl) ?_
  intro C hC hret
  change Go l0_B C 0 0 0 [(0, .ref 0), (1, .int x1), (2, .int x2), (3, .int x3)] [] h
  unfold f_X11_sheet at hf
  refine go_aload_n hC dX11_sheet_0 rfl 0 rfl ?_
  refine go_iconst hC dX11_sheet_1 k1_0 ?_
  obtain ⟨h_1, eh_1, hf⟩ := lt_e hf
  refine go_puti hC tyX11 (j := 11) (idx := 77) (nm := "latestFault") (ds := "I") (b_0 _) rfl rfl hn11 tyX11_ok nmX11 (Nat.le_of_ble_eq_true rfl) rfl rfl (List.mem_cons_of_mem _ (List.mem_append_left _ (List.mem_append_left _ (List.mem_of_getElem? (i := 0) rfl)))) (Or.inl rfl) rfl (tyX11_ok _ (Nat.le_of_ble_eq_true rfl)) dX11_sheet_2 ?_
  refine go_toph eh_1 ?_
  refine go_iload_n hC dX11_sheet_5 rfl 1 rfl ?_
  obtain ⟨r_2, hc, hf⟩ := bd_e1 hf
  refine go_callS hC (c_X8_isSheet x1 h_1 r_2 hc) gX11_sheet_X8_isSheet rfl ⟨rfl, rfl⟩ 1 e_X8_isSheet ⟨Nat.le_of_ble_eq_true rfl, Nat.le_of_ble_eq_true rfl⟩ rfl (st := []) (st1 := [.int r_2]) rfl rfl (Nat.le_of_ble_eq_true rfl) ⟨Nat.zero_le _, Nat.zero_le _⟩ dX11_sheet_6 ?_
  refine go_if_ne hC dX11_sheet_9 (tgt := 14) (by decide) (fun c_11 => ?_) (fun c_11 => ?_)
  · replace hf := if_f c_11 hf
    refine go_iload_n hC dX11_sheet_14 rfl 2 rfl ?_
    obtain ⟨r_3, hc, hf⟩ := bd_e1 hf
    refine go_callS hC (c_X8_isLane x2 h_1 r_3 hc) gX11_sheet_X8_isLane rfl ⟨rfl, rfl⟩ 1 e_X8_isLane ⟨Nat.le_of_ble_eq_true rfl, Nat.le_of_ble_eq_true rfl⟩ rfl (st := []) (st1 := [.int r_3]) rfl rfl (Nat.le_of_ble_eq_true rfl) ⟨Nat.zero_le _, Nat.zero_le _⟩ dX11_sheet_15 ?_
    refine go_if_eq hC dX11_sheet_18 (tgt := 27) (by decide) (fun c_10 => ?_) (fun c_10 => ?_)
    · replace hf := if_t c_10 hf
      refine go_bipush hC dX11_sheet_27 k8_m2 ?_
      obtain ⟨rfl, rfl⟩ := so_2 hf
      exact hret _ _ rfl dX11_sheet_29
    · replace hf := if_f c_10 hf
      refine go_iload_n hC dX11_sheet_21 rfl 3 rfl ?_
      refine go_bipush hC dX11_sheet_22 k8_100 ?_
      refine go_icmp_le hC dX11_sheet_24 (tgt := 30) (by decide) (fun c_9 => ?_) (fun c_9 => ?_)
      · replace hf := if_t c_9 hf
        refine go_iload_n hC dX11_sheet_30 rfl 3 rfl ?_
        refine go_if_ge hC dX11_sheet_31 (tgt := 40) (by decide) (fun c_8 => ?_) (fun c_8 => ?_)
        · replace hf := if_t c_8 hf
          refine go_aload_n hC dX11_sheet_40 rfl 0 rfl ?_
          refine go_getr hC (j := 0) (idx := 12) (nm := "sheets") (ds := "LLampWays$Sheets;") (b_0 _) rfl rfl hn11 (Nat.le_of_ble_eq_true rfl) rfl rfl (List.mem_cons_of_mem _ (List.mem_append_left _ (List.mem_append_left _ (List.mem_of_getElem? (i := 1) rfl)))) (Or.inl rfl) dX11_sheet_41 ?_
          refine go_iload_n hC dX11_sheet_44 rfl 1 rfl ?_
          refine go_iload_n hC dX11_sheet_45 rfl 2 rfl ?_
          refine go_iload_n hC dX11_sheet_46 rfl 3 rfl ?_
          obtain ⟨r_4, h_5, hc, hf⟩ := bd_e2 hf
          refine go_callV hC (c_X8_renew x1 x2 x3 h_1 h_5 hc) gX11_sheet_X8_renew rfl ⟨rfl, rfl⟩ 3 e_X8_renew ⟨Nat.le_of_ble_eq_true rfl, Nat.le_of_ble_eq_true rfl⟩ (b_1 _) rfl rfl (st := []) (st1 := []) rfl rfl (Nat.le_of_ble_eq_true rfl) ⟨Nat.zero_le _, Nat.zero_le _⟩ dX11_sheet_47 ?_
          refine go_iconst hC dX11_sheet_50 k1_1 ?_
          obtain ⟨rfl, rfl⟩ := so_2 hf
          exact hret _ _ rfl dX11_sheet_51
        · replace hf := if_f c_8 hf
          refine go_aload_n hC dX11_sheet_34 rfl 0 rfl ?_
          refine go_iconst hC dX11_sheet_35 k1_4 ?_
          obtain ⟨r_6, h_7, hc, hf⟩ := bd_e2 hf
          refine go_callV hC (c_X11_faulty 4 h_1 h_7 r_6 hc) gX11_sheet_X11_faulty rfl ⟨rfl, rfl⟩ 1 e_X11_faulty ⟨Nat.le_of_ble_eq_true rfl, Nat.le_of_ble_eq_true rfl⟩ (b_0 _) rfl rfl (st := []) (st1 := [.int r_6]) rfl rfl (Nat.le_of_ble_eq_true rfl) ⟨Nat.zero_le _, Nat.zero_le _⟩ dX11_sheet_36 ?_
          obtain ⟨rfl, rfl⟩ := so_2 hf
          exact hret _ _ rfl dX11_sheet_39
      · replace hf := if_f c_9 hf
        refine go_bipush hC dX11_sheet_27 k8_m2 ?_
        obtain ⟨rfl, rfl⟩ := so_2 hf
        exact hret _ _ rfl dX11_sheet_29
  · replace hf := if_t c_11 hf
    refine go_iconst hC dX11_sheet_12 k1_m1 ?_
    obtain ⟨rfl, rfl⟩ := so_2 hf
    exact hret _ _ rfl dX11_sheet_13
def f_X11_lose (x1 : Int32) (h : PH) : Option (Int32 × PH) :=
  bd_1 (f_X8_isSheet x1 h) fun r_1 =>
  if r_1 = 0 then (
  some ((-1), h))
  else (
  bd_1 (f_X8_hasNothing x1 h) fun r_2 =>
  if r_2 = 0 then (
  ga_i x1 4 (
  lt_b (ph_i h 2 x1.toNatClampNeg (-1)) fun h_4 =>
  some (1, h_4)))
  else (
  some (0, h)))
theorem e_X11_lose : yX11_lose.cls = RX11 ∧ yX11_lose.cls ≠ "java/lang/invoke/MethodHandle" ∧ yX11_lose.cls ≠ "java/lang/invoke/VarHandle" ∧ (parseMethodDescriptor yX11_lose.desc).map (fun d => d.parameters.length) = some 1 := by decide +kernel
set_option maxRecDepth 100000 in
set_option maxHeartbeats 4000000 in
theorem c_X11_lose (x1 : Int32) (h : PH) (h2 : PH) (r : Int32) (hf : f_X11_lose x1 h = some (r, h2)) : Con yX11_lose wsX11_lose (rm_d 1) l0_B [.ref 0, .int x1] h (some (.int r)) h2 := by
  have hn11 : ∀ w ∈ wsX110, w ∈ wsX11_lose := (fun _ hw => (List.mem_cons_of_mem _ (List.mem_append_left _ (List.mem_append_right _ hw))))
  have hn8 : ∀ w ∈ wsX80, w ∈ wsX11_lose := (fun _ hw => (List.mem_cons_of_mem _ (List.mem_append_right _ hw)))
  refine con_i (ty := .int) (cc := cX11_lose) (nL := 2) (by decide) rfl (Nat.le_of_ble_eq_true rfl) ?_
  intro C hC hret
  change Go l0_B C 0 0 0 [(0, .ref 0), (1, .int x1)] [] h
  unfold f_X11_lose at hf
  refine go_iload_n hC dX11_lose_0 rfl 1 rfl ?_
  obtain ⟨r_1, hc, hf⟩ := bd_e1 hf
  refine go_callS hC (c_X8_isSheet x1 h r_1 hc) gX11_lose_X8_isSheet rfl ⟨rfl, rfl⟩ 1 e_X8_isSheet ⟨Nat.le_of_ble_eq_true rfl, Nat.le_of_ble_eq_true rfl⟩ rfl (st := []) (st1 := [.int r_1]) rfl rfl (Nat.le_of_ble_eq_true rfl) ⟨Nat.zero_le _, Nat.zero_le _⟩ dX11_lose_1 ?_
  refine go_if_ne hC dX11_lose_4 (tgt := 9) (by decide) (fun c_6 => ?_) (fun c_6 => ?_)
  · replace hf := if_f c_6 hf
    refine go_aload_n hC dX11_lose_9 rfl 0 rfl ?_
    refine go_getr hC (j := 0) (idx := 12) (nm := "sheets") (ds := "LLampWays$Sheets;") (b_0 _) rfl rfl hn11 (Nat.le_of_ble_eq_true rfl) rfl rfl (List.mem_cons_of_mem _ (List.mem_append_left _ (List.mem_append_left _ (List.mem_of_getElem? (i := 0) rfl)))) (Or.inl rfl) dX11_lose_10 ?_
    refine go_iload_n hC dX11_lose_13 rfl 1 rfl ?_
    obtain ⟨r_2, hc, hf⟩ := bd_e1 hf
    refine go_callV hC (c_X8_hasNothing x1 h r_2 hc) gX11_lose_X8_hasNothing rfl ⟨rfl, rfl⟩ 1 e_X8_hasNothing ⟨Nat.le_of_ble_eq_true rfl, Nat.le_of_ble_eq_true rfl⟩ (b_1 _) rfl rfl (st := []) (st1 := [.int r_2]) rfl rfl (Nat.le_of_ble_eq_true rfl) ⟨Nat.zero_le _, Nat.zero_le _⟩ dX11_lose_14 ?_
    refine go_if_eq hC dX11_lose_17 (tgt := 22) (by decide) (fun c_5 => ?_) (fun c_5 => ?_)
    · replace hf := if_t c_5 hf
      refine go_aload_n hC dX11_lose_22 rfl 0 rfl ?_
      refine go_getr hC (j := 0) (idx := 12) (nm := "sheets") (ds := "LLampWays$Sheets;") (b_0 _) rfl rfl hn11 (Nat.le_of_ble_eq_true rfl) rfl rfl (List.mem_cons_of_mem _ (List.mem_append_left _ (List.mem_append_left _ (List.mem_of_getElem? (i := 0) rfl)))) (Or.inl rfl) dX11_lose_23 ?_
      refine go_getr hC (j := 0) (idx := 336) (nm := "lanes") (ds := "[I") (b_1 _) rfl rfl hn8 (Nat.le_of_ble_eq_true rfl) rfl rfl (List.mem_cons_of_mem _ (List.mem_append_left _ (List.mem_append_left _ (List.mem_of_getElem? (i := 1) rfl)))) (Or.inl rfl) dX11_lose_26 ?_
      refine go_iload_n hC dX11_lose_29 rfl 1 rfl ?_
      refine go_iconst hC dX11_lose_30 k1_m1 ?_
      obtain ⟨g_3, hf⟩ := ga_e hf
      obtain ⟨h_4, eh_4, hf⟩ := lt_e hf
      refine go_iast hC (b_2 _) g_3 dX11_lose_31 ?_
      refine go_toph eh_4 ?_
      refine go_iconst hC dX11_lose_32 k1_1 ?_
      obtain ⟨rfl, rfl⟩ := so_2 hf
      exact hret _ _ rfl dX11_lose_33
    · replace hf := if_f c_5 hf
      refine go_iconst hC dX11_lose_20 k1_0 ?_
      obtain ⟨rfl, rfl⟩ := so_2 hf
      exact hret _ _ rfl dX11_lose_21
  · replace hf := if_t c_6 hf
    refine go_iconst hC dX11_lose_7 k1_m1 ?_
    obtain ⟨rfl, rfl⟩ := so_2 hf
    exact hret _ _ rfl dX11_lose_8
def f_X11_put (x1 : Int32) (x2 : Int32) (x3 : Int32) (h : PH) : Option (Int32 × PH) :=
  lt_b (ph_i h 0 11 0) fun h_1 =>
  bd_1 (f_X8_isSheet x1 h_1) fun r_2 =>
  if r_2 = 0 then (
  some ((-1), h_1))
  else (
  bd_1 (f_X8_hasNothing x1 h_1) fun r_3 =>
  if r_3 = 0 then (
  bd_1 (f_X8_isCell x1 x2 h_1) fun r_4 =>
  if r_4 = 0 then (
  bd_2 (f_X11_faulty 3 h_1) fun r_10 h_11 =>
  some (r_10, h_11))
  else (
  bd_1 (f_X8_spot x1 x2 h_1) fun r_5 =>
  ga_i x1 4 (
  bd_1 (f_X8_cut (h_1.1 2 x1.toNatClampNeg) x3 h_1) fun r_7 =>
  ga_i r_5 400 (
  lt_b (ph_i h_1 4 r_5.toNatClampNeg r_7) fun h_9 =>
  some (1, h_9)))))
  else (
  bd_2 (f_X11_faulty 1 h_1) fun r_13 h_14 =>
  some (r_13, h_14)))
theorem e_X11_put : yX11_put.cls = RX11 ∧ yX11_put.cls ≠ "java/lang/invoke/MethodHandle" ∧ yX11_put.cls ≠ "java/lang/invoke/VarHandle" ∧ (parseMethodDescriptor yX11_put.desc).map (fun d => d.parameters.length) = some 3 := by decide +kernel
set_option maxRecDepth 100000 in
set_option maxHeartbeats 4000000 in
theorem c_X11_put (x1 : Int32) (x2 : Int32) (x3 : Int32) (h : PH) (h2 : PH) (r : Int32) (hf : f_X11_put x1 x2 x3 h = some (r, h2)) : Con yX11_put wsX11_put (rm_d 1) l0_B [.ref 0, .int x1, .int x2, .int x3] h (some (.int r)) h2 := by
  have hn11 : ∀ w ∈ wsX110, w ∈ wsX11_put := (fun _ hw => (List.mem_cons_of_mem _ (List.mem_append_left _ (List.mem_append_right _ hw))))
  have hn8 : ∀ w ∈ wsX80, w ∈ wsX11_put := (fun _ hw => (List.mem_cons_of_mem _ (List.mem_append_right _ hw)))
  refine con_i (ty := .int) (cc := cX11_put) (nL := 4) (by decide) rfl (Nat.le_of_ble_eq_true rfl) ?_
  intro C hC hret
  change Go l0_B C 0 0 0 [(0, .ref 0), (1, .int x1), (2, .int x2), (3, .int x3)] [] h
  unfold f_X11_put at hf
  refine go_aload_n hC dX11_put_0 rfl 0 rfl ?_
  refine go_iconst hC dX11_put_1 k1_0 ?_
  obtain ⟨h_1, eh_1, hf⟩ := lt_e hf
  refine go_puti hC tyX11 (j := 11) (idx := 77) (nm := "latestFault") (ds := "I") (b_0 _) rfl rfl hn11 tyX11_ok nmX11 (Nat.le_of_ble_eq_true rfl) rfl rfl (List.mem_cons_of_mem _ (List.mem_append_left _ (List.mem_append_left _ (List.mem_append_left _ (List.mem_of_getElem? (i := 0) rfl))))) (Or.inl rfl) rfl (tyX11_ok _ (Nat.le_of_ble_eq_true rfl)) dX11_put_2 ?_
  refine go_toph eh_1 ?_
  refine go_iload_n hC dX11_put_5 rfl 1 rfl ?_
  obtain ⟨r_2, hc, hf⟩ := bd_e1 hf
  refine go_callS hC (c_X8_isSheet x1 h_1 r_2 hc) gX11_put_X8_isSheet rfl ⟨rfl, rfl⟩ 1 e_X8_isSheet ⟨Nat.le_of_ble_eq_true rfl, Nat.le_of_ble_eq_true rfl⟩ rfl (st := []) (st1 := [.int r_2]) rfl rfl (Nat.le_of_ble_eq_true rfl) ⟨Nat.zero_le _, Nat.zero_le _⟩ dX11_put_6 ?_
  refine go_if_ne hC dX11_put_9 (tgt := 14) (by decide) (fun c_16 => ?_) (fun c_16 => ?_)
  · replace hf := if_f c_16 hf
    refine go_aload_n hC dX11_put_14 rfl 0 rfl ?_
    refine go_getr hC (j := 0) (idx := 12) (nm := "sheets") (ds := "LLampWays$Sheets;") (b_0 _) rfl rfl hn11 (Nat.le_of_ble_eq_true rfl) rfl rfl (List.mem_cons_of_mem _ (List.mem_append_left _ (List.mem_append_left _ (List.mem_append_left _ (List.mem_of_getElem? (i := 1) rfl))))) (Or.inl rfl) dX11_put_15 ?_
    refine go_iload_n hC dX11_put_18 rfl 1 rfl ?_
    obtain ⟨r_3, hc, hf⟩ := bd_e1 hf
    refine go_callV hC (c_X8_hasNothing x1 h_1 r_3 hc) gX11_put_X8_hasNothing rfl ⟨rfl, rfl⟩ 1 e_X8_hasNothing ⟨Nat.le_of_ble_eq_true rfl, Nat.le_of_ble_eq_true rfl⟩ (b_1 _) rfl rfl (st := []) (st1 := [.int r_3]) rfl rfl (Nat.le_of_ble_eq_true rfl) ⟨Nat.zero_le _, Nat.zero_le _⟩ dX11_put_19 ?_
    refine go_if_eq hC dX11_put_22 (tgt := 31) (by decide) (fun c_15 => ?_) (fun c_15 => ?_)
    · replace hf := if_t c_15 hf
      refine go_aload_n hC dX11_put_31 rfl 0 rfl ?_
      refine go_getr hC (j := 0) (idx := 12) (nm := "sheets") (ds := "LLampWays$Sheets;") (b_0 _) rfl rfl hn11 (Nat.le_of_ble_eq_true rfl) rfl rfl (List.mem_cons_of_mem _ (List.mem_append_left _ (List.mem_append_left _ (List.mem_append_left _ (List.mem_of_getElem? (i := 1) rfl))))) (Or.inl rfl) dX11_put_32 ?_
      refine go_iload_n hC dX11_put_35 rfl 1 rfl ?_
      refine go_iload_n hC dX11_put_36 rfl 2 rfl ?_
      obtain ⟨r_4, hc, hf⟩ := bd_e1 hf
      refine go_callV hC (c_X8_isCell x1 x2 h_1 r_4 hc) gX11_put_X8_isCell rfl ⟨rfl, rfl⟩ 2 e_X8_isCell ⟨Nat.le_of_ble_eq_true rfl, Nat.le_of_ble_eq_true rfl⟩ (b_1 _) rfl rfl (st := []) (st1 := [.int r_4]) rfl rfl (Nat.le_of_ble_eq_true rfl) ⟨Nat.zero_le _, Nat.zero_le _⟩ dX11_put_37 ?_
      refine go_if_ne hC dX11_put_40 (tgt := 49) (by decide) (fun c_12 => ?_) (fun c_12 => ?_)
      · replace hf := if_f c_12 hf
        refine go_aload_n hC dX11_put_49 rfl 0 rfl ?_
        refine go_getr hC (j := 0) (idx := 12) (nm := "sheets") (ds := "LLampWays$Sheets;") (b_0 _) rfl rfl hn11 (Nat.le_of_ble_eq_true rfl) rfl rfl (List.mem_cons_of_mem _ (List.mem_append_left _ (List.mem_append_left _ (List.mem_append_left _ (List.mem_of_getElem? (i := 1) rfl))))) (Or.inl rfl) dX11_put_50 ?_
        refine go_getr hC (j := 2) (idx := 96) (nm := "cells") (ds := "[I") (b_1 _) rfl rfl hn8 (Nat.le_of_ble_eq_true rfl) rfl rfl (List.mem_cons_of_mem _ (List.mem_append_left _ (List.mem_append_left _ (List.mem_append_left _ (List.mem_of_getElem? (i := 2) rfl))))) (Or.inl rfl) dX11_put_53 ?_
        refine go_iload_n hC dX11_put_56 rfl 1 rfl ?_
        refine go_iload_n hC dX11_put_57 rfl 2 rfl ?_
        obtain ⟨r_5, hc, hf⟩ := bd_e1 hf
        refine go_callS hC (c_X8_spot x1 x2 h_1 r_5 hc) gX11_put_X8_spot rfl ⟨rfl, rfl⟩ 2 e_X8_spot ⟨Nat.le_of_ble_eq_true rfl, Nat.le_of_ble_eq_true rfl⟩ rfl (st := [.ref 4]) (st1 := [.int r_5, .ref 4]) rfl rfl (Nat.le_of_ble_eq_true rfl) ⟨Nat.zero_le _, Nat.zero_le _⟩ dX11_put_58 ?_
        refine go_aload_n hC dX11_put_61 rfl 0 rfl ?_
        refine go_getr hC (j := 0) (idx := 12) (nm := "sheets") (ds := "LLampWays$Sheets;") (b_0 _) rfl rfl hn11 (Nat.le_of_ble_eq_true rfl) rfl rfl (List.mem_cons_of_mem _ (List.mem_append_left _ (List.mem_append_left _ (List.mem_append_left _ (List.mem_of_getElem? (i := 1) rfl))))) (Or.inl rfl) dX11_put_62 ?_
        refine go_getr hC (j := 0) (idx := 336) (nm := "lanes") (ds := "[I") (b_1 _) rfl rfl hn8 (Nat.le_of_ble_eq_true rfl) rfl rfl (List.mem_cons_of_mem _ (List.mem_append_left _ (List.mem_append_left _ (List.mem_append_left _ (List.mem_of_getElem? (i := 3) rfl))))) (Or.inl rfl) dX11_put_65 ?_
        refine go_iload_n hC dX11_put_68 rfl 1 rfl ?_
        obtain ⟨g_6, hf⟩ := ga_e hf
        refine go_iald hC (b_2 _) g_6 dX11_put_69 ?_
        refine go_iload_n hC dX11_put_70 rfl 3 rfl ?_
        obtain ⟨r_7, hc, hf⟩ := bd_e1 hf
        refine go_callS hC (c_X8_cut (h_1.1 2 x1.toNatClampNeg) x3 h_1 r_7 hc) gX11_put_X8_cut rfl ⟨rfl, rfl⟩ 2 e_X8_cut ⟨Nat.le_of_ble_eq_true rfl, Nat.le_of_ble_eq_true rfl⟩ rfl (st := [.int r_5, .ref 4]) (st1 := [.int r_7, .int r_5, .ref 4]) rfl rfl (Nat.le_of_ble_eq_true rfl) ⟨Nat.zero_le _, Nat.zero_le _⟩ dX11_put_71 ?_
        obtain ⟨g_8, hf⟩ := ga_e hf
        obtain ⟨h_9, eh_9, hf⟩ := lt_e hf
        refine go_iast hC (b_4 _) g_8 dX11_put_74 ?_
        refine go_toph eh_9 ?_
        refine go_iconst hC dX11_put_75 k1_1 ?_
        obtain ⟨rfl, rfl⟩ := so_2 hf
        exact hret _ _ rfl dX11_put_76
      · replace hf := if_t c_12 hf
        refine go_aload_n hC dX11_put_43 rfl 0 rfl ?_
        refine go_iconst hC dX11_put_44 k1_3 ?_
        obtain ⟨r_10, h_11, hc, hf⟩ := bd_e2 hf
        refine go_callV hC (c_X11_faulty 3 h_1 h_11 r_10 hc) gX11_put_X11_faulty rfl ⟨rfl, rfl⟩ 1 e_X11_faulty ⟨Nat.le_of_ble_eq_true rfl, Nat.le_of_ble_eq_true rfl⟩ (b_0 _) rfl rfl (st := []) (st1 := [.int r_10]) rfl rfl (Nat.le_of_ble_eq_true rfl) ⟨Nat.zero_le _, Nat.zero_le _⟩ dX11_put_45 ?_
        obtain ⟨rfl, rfl⟩ := so_2 hf
        exact hret _ _ rfl dX11_put_48
    · replace hf := if_f c_15 hf
      refine go_aload_n hC dX11_put_25 rfl 0 rfl ?_
      refine go_iconst hC dX11_put_26 k1_1 ?_
      obtain ⟨r_13, h_14, hc, hf⟩ := bd_e2 hf
      refine go_callV hC (c_X11_faulty 1 h_1 h_14 r_13 hc) gX11_put_X11_faulty rfl ⟨rfl, rfl⟩ 1 e_X11_faulty ⟨Nat.le_of_ble_eq_true rfl, Nat.le_of_ble_eq_true rfl⟩ (b_0 _) rfl rfl (st := []) (st1 := [.int r_13]) rfl rfl (Nat.le_of_ble_eq_true rfl) ⟨Nat.zero_le _, Nat.zero_le _⟩ dX11_put_27 ?_
      obtain ⟨rfl, rfl⟩ := so_2 hf
      exact hret _ _ rfl dX11_put_30
  · replace hf := if_t c_16 hf
    refine go_iconst hC dX11_put_12 k1_m1 ?_
    obtain ⟨rfl, rfl⟩ := so_2 hf
    exact hret _ _ rfl dX11_put_13
def f_X11_cell (x1 : Int32) (x2 : Int32) (x3 : Int32) (h : PH) : Option (Int64 × PH) :=
  lt_b (ph_i h 0 11 0) fun h_1 =>
  bd_1 (f_X8_isSheet x1 h_1) fun r_2 =>
  if r_2 = 0 then (
  some ((-9223372036854775808), h_1))
  else (
  bd_1 (f_X8_isLane x3 h_1) fun r_3 =>
  if r_3 = 0 then (
  some ((-9223372036854775808), h_1))
  else (
  bd_1 (f_X8_faultOfRow x1 x3 h_1) fun r_4 =>
  if r_4 = 0 then (
  bd_1 (f_X8_isCell x1 x2 h_1) fun r_9 =>
  if r_9 = 0 then (
  if (3 : Int32) = 0 then (
  bd_1 (f_X8_spot x1 x2 h_1) fun r_14 =>
  ga_i r_14 400 (
  some ((h_1.1 4 r_14.toNatClampNeg).toInt64, h_1)))
  else (
  lt_b (ph_i h_1 0 11 3) fun h_16 =>
  some ((-9223372036854775808), h_16)))
  else (
  if r_4 = 0 then (
  bd_1 (f_X8_spot x1 x2 h_1) fun r_10 =>
  ga_i r_10 400 (
  some ((h_1.1 4 r_10.toNatClampNeg).toInt64, h_1)))
  else (
  lt_b (ph_i h_1 0 11 r_4) fun h_12 =>
  some ((-9223372036854775808), h_12))))
  else (
  if r_4 = 0 then (
  bd_1 (f_X8_spot x1 x2 h_1) fun r_5 =>
  ga_i r_5 400 (
  some ((h_1.1 4 r_5.toNatClampNeg).toInt64, h_1)))
  else (
  lt_b (ph_i h_1 0 11 r_4) fun h_7 =>
  some ((-9223372036854775808), h_7)))))
theorem e_X11_cell : yX11_cell.cls = RX11 ∧ yX11_cell.cls ≠ "java/lang/invoke/MethodHandle" ∧ yX11_cell.cls ≠ "java/lang/invoke/VarHandle" ∧ (parseMethodDescriptor yX11_cell.desc).map (fun d => d.parameters.length) = some 3 := by decide +kernel
set_option maxRecDepth 100000 in
set_option maxHeartbeats 4000000 in
theorem c_X11_cell (x1 : Int32) (x2 : Int32) (x3 : Int32) (h : PH) (h2 : PH) (r : Int64) (hf : f_X11_cell x1 x2 x3 h = some (r, h2)) : Con yX11_cell wsX11_cell (rm_d 2) l0_B [.ref 0, .int x1, .int x2, .int x3] h (some (.long r)) h2 := by
  have hn11 : ∀ w ∈ wsX110, w ∈ wsX11_cell := (fun _ hw => (List.mem_cons_of_mem _ (List.mem_append_left _ (List.mem_append_right _ hw))))
  have hn8 : ∀ w ∈ wsX80, w ∈ wsX11_cell := (fun _ hw => (List.mem_cons_of_mem _ (List.mem_append_right _ hw)))
  refine con_l (cc := cX11_cell) (nL := 5) (by decide) rfl (Nat.le_of_ble_eq_true rfl) ?_
  intro C hC hret
  change Go l0_B C 0 0 0 [(0, .ref 0), (1, .int x1), (2, .int x2), (3, .int x3)] [] h
  unfold f_X11_cell at hf
  refine go_aload_n hC dX11_cell_0 rfl 0 rfl ?_
  refine go_iconst hC dX11_cell_1 k1_0 ?_
  obtain ⟨h_1, eh_1, hf⟩ := lt_e hf
  refine go_puti hC tyX11 (j := 11) (idx := 77) (nm := "latestFault") (ds := "I") (b_0 _) rfl rfl hn11 tyX11_ok nmX11 (Nat.le_of_ble_eq_true rfl) rfl rfl (List.mem_cons_of_mem _ (List.mem_append_left _ (List.mem_append_left _ (List.mem_append_left _ (List.mem_of_getElem? (i := 0) rfl))))) (Or.inl rfl) rfl (tyX11_ok _ (Nat.le_of_ble_eq_true rfl)) dX11_cell_2 ?_
  refine go_toph eh_1 ?_
  refine go_iload_n hC dX11_cell_5 rfl 1 rfl ?_
  obtain ⟨r_2, hc, hf⟩ := bd_e1 hf
  refine go_callS hC (c_X8_isSheet x1 h_1 r_2 hc) gX11_cell_X8_isSheet rfl ⟨rfl, rfl⟩ 1 e_X8_isSheet ⟨Nat.le_of_ble_eq_true rfl, Nat.le_of_ble_eq_true rfl⟩ rfl (st := []) (st1 := [.int r_2]) rfl rfl (Nat.le_of_ble_eq_true rfl) ⟨Nat.zero_le _, Nat.zero_le _⟩ dX11_cell_6 ?_
  refine go_if_eq hC dX11_cell_9 (tgt := 19) (by decide) (fun c_21 => ?_) (fun c_21 => ?_)
  · replace hf := if_t c_21 hf
    refine go_ldc2 hC (v := (-9223372036854775808)) (List.mem_cons_of_mem _ (List.mem_append_left _ (List.mem_append_left _ (List.mem_append_left _ (List.mem_of_getElem? (i := 1) rfl))))) dX11_cell_19 ?_
    obtain ⟨rfl, rfl⟩ := so_2 hf
    exact hret _ _ dX11_cell_22
  · replace hf := if_f c_21 hf
    refine go_iload_n hC dX11_cell_12 rfl 3 rfl ?_
    obtain ⟨r_3, hc, hf⟩ := bd_e1 hf
    refine go_callS hC (c_X8_isLane x3 h_1 r_3 hc) gX11_cell_X8_isLane rfl ⟨rfl, rfl⟩ 1 e_X8_isLane ⟨Nat.le_of_ble_eq_true rfl, Nat.le_of_ble_eq_true rfl⟩ rfl (st := []) (st1 := [.int r_3]) rfl rfl (Nat.le_of_ble_eq_true rfl) ⟨Nat.zero_le _, Nat.zero_le _⟩ dX11_cell_13 ?_
    refine go_if_ne hC dX11_cell_16 (tgt := 23) (by decide) (fun c_20 => ?_) (fun c_20 => ?_)
    · replace hf := if_f c_20 hf
      refine go_aload_n hC dX11_cell_23 rfl 0 rfl ?_
      refine go_getr hC (j := 0) (idx := 12) (nm := "sheets") (ds := "LLampWays$Sheets;") (b_0 _) rfl rfl hn11 (Nat.le_of_ble_eq_true rfl) rfl rfl (List.mem_cons_of_mem _ (List.mem_append_left _ (List.mem_append_left _ (List.mem_append_left _ (List.mem_of_getElem? (i := 2) rfl))))) (Or.inl rfl) dX11_cell_24 ?_
      refine go_iload_n hC dX11_cell_27 rfl 1 rfl ?_
      refine go_iload_n hC dX11_cell_28 rfl 3 rfl ?_
      obtain ⟨r_4, hc, hf⟩ := bd_e1 hf
      refine go_callV hC (c_X8_faultOfRow x1 x3 h_1 r_4 hc) gX11_cell_X8_faultOfRow rfl ⟨rfl, rfl⟩ 2 e_X8_faultOfRow ⟨Nat.le_of_ble_eq_true rfl, Nat.le_of_ble_eq_true rfl⟩ (b_1 _) rfl rfl (st := []) (st1 := [.int r_4]) rfl rfl (Nat.le_of_ble_eq_true rfl) ⟨Nat.zero_le _, Nat.zero_le _⟩ dX11_cell_29 ?_
      refine go_istore hC dX11_cell_32 (Nat.le_of_ble_eq_true rfl) rfl ?_
      refine go_iload hC dX11_cell_34 0 rfl ?_
      refine go_if_ne hC dX11_cell_36 (tgt := 54) (by decide) (fun c_19 => ?_) (fun c_19 => ?_)
      · replace hf := if_f c_19 hf
        refine go_iload hC dX11_cell_54 0 rfl ?_
        refine go_if_eq hC dX11_cell_56 (tgt := 69) (by decide) (fun c_8 => ?_) (fun c_8 => ?_)
        · replace hf := if_t c_8 hf
          refine go_aload_n hC dX11_cell_69 rfl 1 rfl ?_
          refine go_getr hC (j := 0) (idx := 12) (nm := "sheets") (ds := "LLampWays$Sheets;") (b_0 _) rfl rfl hn11 (Nat.le_of_ble_eq_true rfl) rfl rfl (List.mem_cons_of_mem _ (List.mem_append_left _ (List.mem_append_left _ (List.mem_append_left _ (List.mem_of_getElem? (i := 2) rfl))))) (Or.inl rfl) dX11_cell_70 ?_
          refine go_getr hC (j := 2) (idx := 96) (nm := "cells") (ds := "[I") (b_1 _) rfl rfl hn8 (Nat.le_of_ble_eq_true rfl) rfl rfl (List.mem_cons_of_mem _ (List.mem_append_left _ (List.mem_append_left _ (List.mem_append_left _ (List.mem_of_getElem? (i := 3) rfl))))) (Or.inl rfl) dX11_cell_73 ?_
          refine go_iload_n hC dX11_cell_76 rfl 2 rfl ?_
          refine go_iload_n hC dX11_cell_77 rfl 3 rfl ?_
          obtain ⟨r_5, hc, hf⟩ := bd_e1 hf
          refine go_callS hC (c_X8_spot x1 x2 h_1 r_5 hc) gX11_cell_X8_spot rfl ⟨rfl, rfl⟩ 2 e_X8_spot ⟨Nat.le_of_ble_eq_true rfl, Nat.le_of_ble_eq_true rfl⟩ rfl (st := [.ref 4]) (st1 := [.int r_5, .ref 4]) rfl rfl (Nat.le_of_ble_eq_true rfl) ⟨Nat.zero_le _, Nat.zero_le _⟩ dX11_cell_78 ?_
          obtain ⟨g_6, hf⟩ := ga_e hf
          refine go_iald hC (b_4 _) g_6 dX11_cell_81 ?_
          refine go_i2l hC dX11_cell_82 ?_
          obtain ⟨rfl, rfl⟩ := so_2 hf
          exact hret _ _ dX11_cell_83
        · replace hf := if_f c_8 hf
          refine go_aload_n hC dX11_cell_59 rfl 1 rfl ?_
          refine go_iload hC dX11_cell_60 0 rfl ?_
          obtain ⟨h_7, eh_7, hf⟩ := lt_e hf
          refine go_puti hC tyX11 (j := 11) (idx := 77) (nm := "latestFault") (ds := "I") (b_0 _) rfl rfl hn11 tyX11_ok nmX11 (Nat.le_of_ble_eq_true rfl) rfl rfl (List.mem_cons_of_mem _ (List.mem_append_left _ (List.mem_append_left _ (List.mem_append_left _ (List.mem_of_getElem? (i := 0) rfl))))) (Or.inl rfl) rfl (tyX11_ok _ (Nat.le_of_ble_eq_true rfl)) dX11_cell_62 ?_
          refine go_toph eh_7 ?_
          refine go_ldc2 hC (v := (-9223372036854775808)) (List.mem_cons_of_mem _ (List.mem_append_left _ (List.mem_append_left _ (List.mem_append_left _ (List.mem_of_getElem? (i := 1) rfl))))) dX11_cell_65 ?_
          obtain ⟨rfl, rfl⟩ := so_2 hf
          exact hret _ _ dX11_cell_68
      · replace hf := if_t c_19 hf
        refine go_aload_n hC dX11_cell_39 rfl 1 rfl ?_
        refine go_getr hC (j := 0) (idx := 12) (nm := "sheets") (ds := "LLampWays$Sheets;") (b_0 _) rfl rfl hn11 (Nat.le_of_ble_eq_true rfl) rfl rfl (List.mem_cons_of_mem _ (List.mem_append_left _ (List.mem_append_left _ (List.mem_append_left _ (List.mem_of_getElem? (i := 2) rfl))))) (Or.inl rfl) dX11_cell_40 ?_
        refine go_iload_n hC dX11_cell_43 rfl 2 rfl ?_
        refine go_iload_n hC dX11_cell_44 rfl 3 rfl ?_
        obtain ⟨r_9, hc, hf⟩ := bd_e1 hf
        refine go_callV hC (c_X8_isCell x1 x2 h_1 r_9 hc) gX11_cell_X8_isCell rfl ⟨rfl, rfl⟩ 2 e_X8_isCell ⟨Nat.le_of_ble_eq_true rfl, Nat.le_of_ble_eq_true rfl⟩ (b_1 _) rfl rfl (st := []) (st1 := [.int r_9]) rfl rfl (Nat.le_of_ble_eq_true rfl) ⟨Nat.zero_le _, Nat.zero_le _⟩ dX11_cell_45 ?_
        refine go_if_ne hC dX11_cell_48 (tgt := 54) (by decide) (fun c_18 => ?_) (fun c_18 => ?_)
        · replace hf := if_f c_18 hf
          refine go_iload hC dX11_cell_54 0 rfl ?_
          refine go_if_eq hC dX11_cell_56 (tgt := 69) (by decide) (fun c_13 => ?_) (fun c_13 => ?_)
          · replace hf := if_t c_13 hf
            refine go_aload_n hC dX11_cell_69 rfl 1 rfl ?_
            refine go_getr hC (j := 0) (idx := 12) (nm := "sheets") (ds := "LLampWays$Sheets;") (b_0 _) rfl rfl hn11 (Nat.le_of_ble_eq_true rfl) rfl rfl (List.mem_cons_of_mem _ (List.mem_append_left _ (List.mem_append_left _ (List.mem_append_left _ (List.mem_of_getElem? (i := 2) rfl))))) (Or.inl rfl) dX11_cell_70 ?_
            refine go_getr hC (j := 2) (idx := 96) (nm := "cells") (ds := "[I") (b_1 _) rfl rfl hn8 (Nat.le_of_ble_eq_true rfl) rfl rfl (List.mem_cons_of_mem _ (List.mem_append_left _ (List.mem_append_left _ (List.mem_append_left _ (List.mem_of_getElem? (i := 3) rfl))))) (Or.inl rfl) dX11_cell_73 ?_
            refine go_iload_n hC dX11_cell_76 rfl 2 rfl ?_
            refine go_iload_n hC dX11_cell_77 rfl 3 rfl ?_
            obtain ⟨r_10, hc, hf⟩ := bd_e1 hf
            refine go_callS hC (c_X8_spot x1 x2 h_1 r_10 hc) gX11_cell_X8_spot rfl ⟨rfl, rfl⟩ 2 e_X8_spot ⟨Nat.le_of_ble_eq_true rfl, Nat.le_of_ble_eq_true rfl⟩ rfl (st := [.ref 4]) (st1 := [.int r_10, .ref 4]) rfl rfl (Nat.le_of_ble_eq_true rfl) ⟨Nat.zero_le _, Nat.zero_le _⟩ dX11_cell_78 ?_
            obtain ⟨g_11, hf⟩ := ga_e hf
            refine go_iald hC (b_4 _) g_11 dX11_cell_81 ?_
            refine go_i2l hC dX11_cell_82 ?_
            obtain ⟨rfl, rfl⟩ := so_2 hf
            exact hret _ _ dX11_cell_83
          · replace hf := if_f c_13 hf
            refine go_aload_n hC dX11_cell_59 rfl 1 rfl ?_
            refine go_iload hC dX11_cell_60 0 rfl ?_
            obtain ⟨h_12, eh_12, hf⟩ := lt_e hf
            refine go_puti hC tyX11 (j := 11) (idx := 77) (nm := "latestFault") (ds := "I") (b_0 _) rfl rfl hn11 tyX11_ok nmX11 (Nat.le_of_ble_eq_true rfl) rfl rfl (List.mem_cons_of_mem _ (List.mem_append_left _ (List.mem_append_left _ (List.mem_append_left _ (List.mem_of_getElem? (i := 0) rfl))))) (Or.inl rfl) rfl (tyX11_ok _ (Nat.le_of_ble_eq_true rfl)) dX11_cell_62 ?_
            refine go_toph eh_12 ?_
            refine go_ldc2 hC (v := (-9223372036854775808)) (List.mem_cons_of_mem _ (List.mem_append_left _ (List.mem_append_left _ (List.mem_append_left _ (List.mem_of_getElem? (i := 1) rfl))))) dX11_cell_65 ?_
            obtain ⟨rfl, rfl⟩ := so_2 hf
            exact hret _ _ dX11_cell_68
        · replace hf := if_t c_18 hf
          refine go_iconst hC dX11_cell_51 k1_3 ?_
          refine go_istore hC dX11_cell_52 (Nat.le_of_ble_eq_true rfl) rfl ?_
          refine go_iload hC dX11_cell_54 0 rfl ?_
          refine go_if_eq hC dX11_cell_56 (tgt := 69) (by decide) (fun c_17 => ?_) (fun c_17 => ?_)
          · replace hf := if_t c_17 hf
            refine go_aload_n hC dX11_cell_69 rfl 1 rfl ?_
            refine go_getr hC (j := 0) (idx := 12) (nm := "sheets") (ds := "LLampWays$Sheets;") (b_0 _) rfl rfl hn11 (Nat.le_of_ble_eq_true rfl) rfl rfl (List.mem_cons_of_mem _ (List.mem_append_left _ (List.mem_append_left _ (List.mem_append_left _ (List.mem_of_getElem? (i := 2) rfl))))) (Or.inl rfl) dX11_cell_70 ?_
            refine go_getr hC (j := 2) (idx := 96) (nm := "cells") (ds := "[I") (b_1 _) rfl rfl hn8 (Nat.le_of_ble_eq_true rfl) rfl rfl (List.mem_cons_of_mem _ (List.mem_append_left _ (List.mem_append_left _ (List.mem_append_left _ (List.mem_of_getElem? (i := 3) rfl))))) (Or.inl rfl) dX11_cell_73 ?_
            refine go_iload_n hC dX11_cell_76 rfl 2 rfl ?_
            refine go_iload_n hC dX11_cell_77 rfl 3 rfl ?_
            obtain ⟨r_14, hc, hf⟩ := bd_e1 hf
            refine go_callS hC (c_X8_spot x1 x2 h_1 r_14 hc) gX11_cell_X8_spot rfl ⟨rfl, rfl⟩ 2 e_X8_spot ⟨Nat.le_of_ble_eq_true rfl, Nat.le_of_ble_eq_true rfl⟩ rfl (st := [.ref 4]) (st1 := [.int r_14, .ref 4]) rfl rfl (Nat.le_of_ble_eq_true rfl) ⟨Nat.zero_le _, Nat.zero_le _⟩ dX11_cell_78 ?_
            obtain ⟨g_15, hf⟩ := ga_e hf
            refine go_iald hC (b_4 _) g_15 dX11_cell_81 ?_
            refine go_i2l hC dX11_cell_82 ?_
            obtain ⟨rfl, rfl⟩ := so_2 hf
            exact hret _ _ dX11_cell_83
          · replace hf := if_f c_17 hf
            refine go_aload_n hC dX11_cell_59 rfl 1 rfl ?_
            refine go_iload hC dX11_cell_60 0 rfl ?_
            obtain ⟨h_16, eh_16, hf⟩ := lt_e hf
            refine go_puti hC tyX11 (j := 11) (idx := 77) (nm := "latestFault") (ds := "I") (b_0 _) rfl rfl hn11 tyX11_ok nmX11 (Nat.le_of_ble_eq_true rfl) rfl rfl (List.mem_cons_of_mem _ (List.mem_append_left _ (List.mem_append_left _ (List.mem_append_left _ (List.mem_of_getElem? (i := 0) rfl))))) (Or.inl rfl) rfl (tyX11_ok _ (Nat.le_of_ble_eq_true rfl)) dX11_cell_62 ?_
            refine go_toph eh_16 ?_
            refine go_ldc2 hC (v := (-9223372036854775808)) (List.mem_cons_of_mem _ (List.mem_append_left _ (List.mem_append_left _ (List.mem_append_left _ (List.mem_of_getElem? (i := 1) rfl))))) dX11_cell_65 ?_
            obtain ⟨rfl, rfl⟩ := so_2 hf
            exact hret _ _ dX11_cell_68
    · replace hf := if_t c_20 hf
      refine go_ldc2 hC (v := (-9223372036854775808)) (List.mem_cons_of_mem _ (List.mem_append_left _ (List.mem_append_left _ (List.mem_append_left _ (List.mem_of_getElem? (i := 1) rfl))))) dX11_cell_19 ?_
      obtain ⟨rfl, rfl⟩ := so_2 hf
      exact hret _ _ dX11_cell_22
def f_X11_copy (x1 : Int32) (x2 : Int32) (x3 : Int32) (x4 : Int32) (x5 : Int32) (h : PH) : Option (Int32 × PH) :=
  lt_b (ph_i h 0 11 0) fun h_1 =>
  bd_1 (f_X8_isSheet x1 h_1) fun r_2 =>
  if r_2 = 0 then (
  some ((-1), h_1))
  else (
  bd_1 (f_X8_isSheet x3 h_1) fun r_3 =>
  if r_3 = 0 then (
  some ((-1), h_1))
  else (
  bd_1 (f_X8_hasNothing x1 h_1) fun r_4 =>
  if r_4 = 0 then (
  bd_1 (f_X8_hasNothing x3 h_1) fun r_7 =>
  if r_7 = 0 then (
  ga_i x1 4 (
  ga_i x3 4 (
  if (h_1.1 2 x1.toNatClampNeg) = (h_1.1 2 x3.toNatClampNeg) then (
  if x5 < 0 then (
  bd_2 (f_X11_faulty 3 h_1) fun r_10 h_11 =>
  some (r_10, h_11))
  else (
  bd_1 (f_X8_areCells x1 x2 x5 h_1) fun r_12 =>
  if r_12 = 0 then (
  bd_2 (f_X11_faulty 3 h_1) fun r_13 h_14 =>
  some (r_13, h_14))
  else (
  bd_1 (f_X8_areCells x3 x4 x5 h_1) fun r_15 =>
  if r_15 = 0 then (
  bd_2 (f_X11_faulty 3 h_1) fun r_24 h_25 =>
  some (r_24, h_25))
  else (
  bd_1 (f_X8_spot x1 x2 h_1) fun r_16 =>
  bd_1 (f_X8_spot x3 x4 h_1) fun r_17 =>
  gc_y r_16 r_17 x5 400 400 (
  lt_b (ph_r h_1 4 (va_cpy (h_1.1 4) (h_1.1 4) r_16.toNatClampNeg r_17.toNatClampNeg x5.toNatClampNeg)) fun h_18 =>
  some (x5, h_18))))))
  else (
  bd_2 (f_X11_faulty 2 h_1) fun r_29 h_30 =>
  some (r_29, h_30)))))
  else (
  bd_2 (f_X11_faulty 1 h_1) fun r_32 h_33 =>
  some (r_32, h_33)))
  else (
  bd_2 (f_X11_faulty 1 h_1) fun r_5 h_6 =>
  some (r_5, h_6))))
theorem e_X11_copy : yX11_copy.cls = RX11 ∧ yX11_copy.cls ≠ "java/lang/invoke/MethodHandle" ∧ yX11_copy.cls ≠ "java/lang/invoke/VarHandle" ∧ (parseMethodDescriptor yX11_copy.desc).map (fun d => d.parameters.length) = some 5 := by decide +kernel
set_option maxRecDepth 100000 in
set_option maxHeartbeats 4000000 in
theorem c_X11_copy (x1 : Int32) (x2 : Int32) (x3 : Int32) (x4 : Int32) (x5 : Int32) (h : PH) (h2 : PH) (r : Int32) (hf : f_X11_copy x1 x2 x3 x4 x5 h = some (r, h2)) : Con yX11_copy wsX11_copy (rm_d 1) l0_B [.ref 0, .int x1, .int x2, .int x3, .int x4, .int x5] h (some (.int r)) h2 := by
  have hn11 : ∀ w ∈ wsX110, w ∈ wsX11_copy := (fun _ hw => (List.mem_cons_of_mem _ (List.mem_append_left _ (List.mem_append_right _ hw))))
  have hn8 : ∀ w ∈ wsX80, w ∈ wsX11_copy := (fun _ hw => (List.mem_cons_of_mem _ (List.mem_append_right _ hw)))
  refine con_i (ty := .int) (cc := cX11_copy) (nL := 6) (by decide) rfl (Nat.le_of_ble_eq_true rfl) ?_
  intro C hC hret
  change Go l0_B C 0 0 0 [(0, .ref 0), (1, .int x1), (2, .int x2), (3, .int x3), (4, .int x4), (5, .int x5)] [] h
  unfold f_X11_copy at hf
  refine go_aload_n hC dX11_copy_0 rfl 0 rfl ?_
  refine go_iconst hC dX11_copy_1 k1_0 ?_
  obtain ⟨h_1, eh_1, hf⟩ := lt_e hf
  refine go_puti hC tyX11 (j := 11) (idx := 77) (nm := "latestFault") (ds := "I") (b_0 _) rfl rfl hn11 tyX11_ok nmX11 (Nat.le_of_ble_eq_true rfl) rfl rfl (List.mem_cons_of_mem _ (List.mem_append_left _ (List.mem_append_left _ (List.mem_append_left _ (List.mem_of_getElem? (i := 0) rfl))))) (Or.inl rfl) rfl (tyX11_ok _ (Nat.le_of_ble_eq_true rfl)) dX11_copy_2 ?_
  refine go_toph eh_1 ?_
  refine go_iload_n hC dX11_copy_5 rfl 1 rfl ?_
  obtain ⟨r_2, hc, hf⟩ := bd_e1 hf
  refine go_callS hC (c_X8_isSheet x1 h_1 r_2 hc) gX11_copy_X8_isSheet rfl ⟨rfl, rfl⟩ 1 e_X8_isSheet ⟨Nat.le_of_ble_eq_true rfl, Nat.le_of_ble_eq_true rfl⟩ rfl (st := []) (st1 := [.int r_2]) rfl rfl (Nat.le_of_ble_eq_true rfl) ⟨Nat.zero_le _, Nat.zero_le _⟩ dX11_copy_6 ?_
  refine go_if_eq hC dX11_copy_9 (tgt := 19) (by decide) (fun c_37 => ?_) (fun c_37 => ?_)
  · replace hf := if_t c_37 hf
    refine go_iconst hC dX11_copy_19 k1_m1 ?_
    obtain ⟨rfl, rfl⟩ := so_2 hf
    exact hret _ _ rfl dX11_copy_20
  · replace hf := if_f c_37 hf
    refine go_iload_n hC dX11_copy_12 rfl 3 rfl ?_
    obtain ⟨r_3, hc, hf⟩ := bd_e1 hf
    refine go_callS hC (c_X8_isSheet x3 h_1 r_3 hc) gX11_copy_X8_isSheet rfl ⟨rfl, rfl⟩ 1 e_X8_isSheet ⟨Nat.le_of_ble_eq_true rfl, Nat.le_of_ble_eq_true rfl⟩ rfl (st := []) (st1 := [.int r_3]) rfl rfl (Nat.le_of_ble_eq_true rfl) ⟨Nat.zero_le _, Nat.zero_le _⟩ dX11_copy_13 ?_
    refine go_if_ne hC dX11_copy_16 (tgt := 21) (by decide) (fun c_36 => ?_) (fun c_36 => ?_)
    · replace hf := if_f c_36 hf
      refine go_aload_n hC dX11_copy_21 rfl 0 rfl ?_
      refine go_getr hC (j := 0) (idx := 12) (nm := "sheets") (ds := "LLampWays$Sheets;") (b_0 _) rfl rfl hn11 (Nat.le_of_ble_eq_true rfl) rfl rfl (List.mem_cons_of_mem _ (List.mem_append_left _ (List.mem_append_left _ (List.mem_append_left _ (List.mem_of_getElem? (i := 1) rfl))))) (Or.inl rfl) dX11_copy_22 ?_
      refine go_iload_n hC dX11_copy_25 rfl 1 rfl ?_
      obtain ⟨r_4, hc, hf⟩ := bd_e1 hf
      refine go_callV hC (c_X8_hasNothing x1 h_1 r_4 hc) gX11_copy_X8_hasNothing rfl ⟨rfl, rfl⟩ 1 e_X8_hasNothing ⟨Nat.le_of_ble_eq_true rfl, Nat.le_of_ble_eq_true rfl⟩ (b_1 _) rfl rfl (st := []) (st1 := [.int r_4]) rfl rfl (Nat.le_of_ble_eq_true rfl) ⟨Nat.zero_le _, Nat.zero_le _⟩ dX11_copy_26 ?_
      refine go_if_ne hC dX11_copy_29 (tgt := 43) (by decide) (fun c_35 => ?_) (fun c_35 => ?_)
      · replace hf := if_f c_35 hf
        refine go_aload_n hC dX11_copy_43 rfl 0 rfl ?_
        refine go_iconst hC dX11_copy_44 k1_1 ?_
        obtain ⟨r_5, h_6, hc, hf⟩ := bd_e2 hf
        refine go_callV hC (c_X11_faulty 1 h_1 h_6 r_5 hc) gX11_copy_X11_faulty rfl ⟨rfl, rfl⟩ 1 e_X11_faulty ⟨Nat.le_of_ble_eq_true rfl, Nat.le_of_ble_eq_true rfl⟩ (b_0 _) rfl rfl (st := []) (st1 := [.int r_5]) rfl rfl (Nat.le_of_ble_eq_true rfl) ⟨Nat.zero_le _, Nat.zero_le _⟩ dX11_copy_45 ?_
        obtain ⟨rfl, rfl⟩ := so_2 hf
        exact hret _ _ rfl dX11_copy_48
      · replace hf := if_t c_35 hf
        refine go_aload_n hC dX11_copy_32 rfl 0 rfl ?_
        refine go_getr hC (j := 0) (idx := 12) (nm := "sheets") (ds := "LLampWays$Sheets;") (b_0 _) rfl rfl hn11 (Nat.le_of_ble_eq_true rfl) rfl rfl (List.mem_cons_of_mem _ (List.mem_append_left _ (List.mem_append_left _ (List.mem_append_left _ (List.mem_of_getElem? (i := 1) rfl))))) (Or.inl rfl) dX11_copy_33 ?_
        refine go_iload_n hC dX11_copy_36 rfl 3 rfl ?_
        obtain ⟨r_7, hc, hf⟩ := bd_e1 hf
        refine go_callV hC (c_X8_hasNothing x3 h_1 r_7 hc) gX11_copy_X8_hasNothing rfl ⟨rfl, rfl⟩ 1 e_X8_hasNothing ⟨Nat.le_of_ble_eq_true rfl, Nat.le_of_ble_eq_true rfl⟩ (b_1 _) rfl rfl (st := []) (st1 := [.int r_7]) rfl rfl (Nat.le_of_ble_eq_true rfl) ⟨Nat.zero_le _, Nat.zero_le _⟩ dX11_copy_37 ?_
        refine go_if_eq hC dX11_copy_40 (tgt := 49) (by decide) (fun c_34 => ?_) (fun c_34 => ?_)
        · replace hf := if_t c_34 hf
          refine go_aload_n hC dX11_copy_49 rfl 0 rfl ?_
          refine go_getr hC (j := 0) (idx := 12) (nm := "sheets") (ds := "LLampWays$Sheets;") (b_0 _) rfl rfl hn11 (Nat.le_of_ble_eq_true rfl) rfl rfl (List.mem_cons_of_mem _ (List.mem_append_left _ (List.mem_append_left _ (List.mem_append_left _ (List.mem_of_getElem? (i := 1) rfl))))) (Or.inl rfl) dX11_copy_50 ?_
          refine go_getr hC (j := 0) (idx := 336) (nm := "lanes") (ds := "[I") (b_1 _) rfl rfl hn8 (Nat.le_of_ble_eq_true rfl) rfl rfl (List.mem_cons_of_mem _ (List.mem_append_left _ (List.mem_append_left _ (List.mem_append_left _ (List.mem_of_getElem? (i := 2) rfl))))) (Or.inl rfl) dX11_copy_53 ?_
          refine go_iload_n hC dX11_copy_56 rfl 1 rfl ?_
          obtain ⟨g_8, hf⟩ := ga_e hf
          refine go_iald hC (b_2 _) g_8 dX11_copy_57 ?_
          refine go_aload_n hC dX11_copy_58 rfl 0 rfl ?_
          refine go_getr hC (j := 0) (idx := 12) (nm := "sheets") (ds := "LLampWays$Sheets;") (b_0 _) rfl rfl hn11 (Nat.le_of_ble_eq_true rfl) rfl rfl (List.mem_cons_of_mem _ (List.mem_append_left _ (List.mem_append_left _ (List.mem_append_left _ (List.mem_of_getElem? (i := 1) rfl))))) (Or.inl rfl) dX11_copy_59 ?_
          refine go_getr hC (j := 0) (idx := 336) (nm := "lanes") (ds := "[I") (b_1 _) rfl rfl hn8 (Nat.le_of_ble_eq_true rfl) rfl rfl (List.mem_cons_of_mem _ (List.mem_append_left _ (List.mem_append_left _ (List.mem_append_left _ (List.mem_of_getElem? (i := 2) rfl))))) (Or.inl rfl) dX11_copy_62 ?_
          refine go_iload_n hC dX11_copy_65 rfl 3 rfl ?_
          obtain ⟨g_9, hf⟩ := ga_e hf
          refine go_iald hC (b_2 _) g_9 dX11_copy_66 ?_
          refine go_icmp_eq hC dX11_copy_67 (tgt := 76) (by decide) (fun c_31 => ?_) (fun c_31 => ?_)
          · replace hf := if_t c_31 hf
            refine go_iload hC dX11_copy_76 5 rfl ?_
            refine go_if_lt hC dX11_copy_78 (tgt := 110) (by decide) (fun c_28 => ?_) (fun c_28 => ?_)
            · replace hf := if_t c_28 hf
              refine go_aload_n hC dX11_copy_110 rfl 0 rfl ?_
              refine go_iconst hC dX11_copy_111 k1_3 ?_
              obtain ⟨r_10, h_11, hc, hf⟩ := bd_e2 hf
              refine go_callV hC (c_X11_faulty 3 h_1 h_11 r_10 hc) gX11_copy_X11_faulty rfl ⟨rfl, rfl⟩ 1 e_X11_faulty ⟨Nat.le_of_ble_eq_true rfl, Nat.le_of_ble_eq_true rfl⟩ (b_0 _) rfl rfl (st := []) (st1 := [.int r_10]) rfl rfl (Nat.le_of_ble_eq_true rfl) ⟨Nat.zero_le _, Nat.zero_le _⟩ dX11_copy_112 ?_
              obtain ⟨rfl, rfl⟩ := so_2 hf
              exact hret _ _ rfl dX11_copy_115
            · replace hf := if_f c_28 hf
              refine go_aload_n hC dX11_copy_81 rfl 0 rfl ?_
              refine go_getr hC (j := 0) (idx := 12) (nm := "sheets") (ds := "LLampWays$Sheets;") (b_0 _) rfl rfl hn11 (Nat.le_of_ble_eq_true rfl) rfl rfl (List.mem_cons_of_mem _ (List.mem_append_left _ (List.mem_append_left _ (List.mem_append_left _ (List.mem_of_getElem? (i := 1) rfl))))) (Or.inl rfl) dX11_copy_82 ?_
              refine go_iload_n hC dX11_copy_85 rfl 1 rfl ?_
              refine go_iload_n hC dX11_copy_86 rfl 2 rfl ?_
              refine go_iload hC dX11_copy_87 5 rfl ?_
              obtain ⟨r_12, hc, hf⟩ := bd_e1 hf
              refine go_callV hC (c_X8_areCells x1 x2 x5 h_1 r_12 hc) gX11_copy_X8_areCells rfl ⟨rfl, rfl⟩ 3 e_X8_areCells ⟨Nat.le_of_ble_eq_true rfl, Nat.le_of_ble_eq_true rfl⟩ (b_1 _) rfl rfl (st := []) (st1 := [.int r_12]) rfl rfl (Nat.le_of_ble_eq_true rfl) ⟨Nat.zero_le _, Nat.zero_le _⟩ dX11_copy_89 ?_
              refine go_if_eq hC dX11_copy_92 (tgt := 110) (by decide) (fun c_27 => ?_) (fun c_27 => ?_)
              · replace hf := if_t c_27 hf
                refine go_aload_n hC dX11_copy_110 rfl 0 rfl ?_
                refine go_iconst hC dX11_copy_111 k1_3 ?_
                obtain ⟨r_13, h_14, hc, hf⟩ := bd_e2 hf
                refine go_callV hC (c_X11_faulty 3 h_1 h_14 r_13 hc) gX11_copy_X11_faulty rfl ⟨rfl, rfl⟩ 1 e_X11_faulty ⟨Nat.le_of_ble_eq_true rfl, Nat.le_of_ble_eq_true rfl⟩ (b_0 _) rfl rfl (st := []) (st1 := [.int r_13]) rfl rfl (Nat.le_of_ble_eq_true rfl) ⟨Nat.zero_le _, Nat.zero_le _⟩ dX11_copy_112 ?_
                obtain ⟨rfl, rfl⟩ := so_2 hf
                exact hret _ _ rfl dX11_copy_115
              · replace hf := if_f c_27 hf
                refine go_aload_n hC dX11_copy_95 rfl 0 rfl ?_
                refine go_getr hC (j := 0) (idx := 12) (nm := "sheets") (ds := "LLampWays$Sheets;") (b_0 _) rfl rfl hn11 (Nat.le_of_ble_eq_true rfl) rfl rfl (List.mem_cons_of_mem _ (List.mem_append_left _ (List.mem_append_left _ (List.mem_append_left _ (List.mem_of_getElem? (i := 1) rfl))))) (Or.inl rfl) dX11_copy_96 ?_
                refine go_iload_n hC dX11_copy_99 rfl 3 rfl ?_
                refine go_iload hC dX11_copy_100 4 rfl ?_
                refine go_iload hC dX11_copy_102 5 rfl ?_
                obtain ⟨r_15, hc, hf⟩ := bd_e1 hf
                refine go_callV hC (c_X8_areCells x3 x4 x5 h_1 r_15 hc) gX11_copy_X8_areCells rfl ⟨rfl, rfl⟩ 3 e_X8_areCells ⟨Nat.le_of_ble_eq_true rfl, Nat.le_of_ble_eq_true rfl⟩ (b_1 _) rfl rfl (st := []) (st1 := [.int r_15]) rfl rfl (Nat.le_of_ble_eq_true rfl) ⟨Nat.zero_le _, Nat.zero_le _⟩ dX11_copy_104 ?_
                refine go_if_ne hC dX11_copy_107 (tgt := 116) (by decide) (fun c_26 => ?_) (fun c_26 => ?_)
                · replace hf := if_f c_26 hf
                  refine go_aload_n hC dX11_copy_116 rfl 0 rfl ?_
                  refine go_getr hC (j := 0) (idx := 12) (nm := "sheets") (ds := "LLampWays$Sheets;") (b_0 _) rfl rfl hn11 (Nat.le_of_ble_eq_true rfl) rfl rfl (List.mem_cons_of_mem _ (List.mem_append_left _ (List.mem_append_left _ (List.mem_append_left _ (List.mem_of_getElem? (i := 1) rfl))))) (Or.inl rfl) dX11_copy_117 ?_
                  refine go_getr hC (j := 2) (idx := 96) (nm := "cells") (ds := "[I") (b_1 _) rfl rfl hn8 (Nat.le_of_ble_eq_true rfl) rfl rfl (List.mem_cons_of_mem _ (List.mem_append_left _ (List.mem_append_left _ (List.mem_append_left _ (List.mem_of_getElem? (i := 3) rfl))))) (Or.inl rfl) dX11_copy_120 ?_
                  refine go_iload_n hC dX11_copy_123 rfl 1 rfl ?_
                  refine go_iload_n hC dX11_copy_124 rfl 2 rfl ?_
                  obtain ⟨r_16, hc, hf⟩ := bd_e1 hf
                  refine go_callS hC (c_X8_spot x1 x2 h_1 r_16 hc) gX11_copy_X8_spot rfl ⟨rfl, rfl⟩ 2 e_X8_spot ⟨Nat.le_of_ble_eq_true rfl, Nat.le_of_ble_eq_true rfl⟩ rfl (st := [.ref 4]) (st1 := [.int r_16, .ref 4]) rfl rfl (Nat.le_of_ble_eq_true rfl) ⟨Nat.zero_le _, Nat.zero_le _⟩ dX11_copy_125 ?_
                  refine go_aload_n hC dX11_copy_128 rfl 0 rfl ?_
                  refine go_getr hC (j := 0) (idx := 12) (nm := "sheets") (ds := "LLampWays$Sheets;") (b_0 _) rfl rfl hn11 (Nat.le_of_ble_eq_true rfl) rfl rfl (List.mem_cons_of_mem _ (List.mem_append_left _ (List.mem_append_left _ (List.mem_append_left _ (List.mem_of_getElem? (i := 1) rfl))))) (Or.inl rfl) dX11_copy_129 ?_
                  refine go_getr hC (j := 2) (idx := 96) (nm := "cells") (ds := "[I") (b_1 _) rfl rfl hn8 (Nat.le_of_ble_eq_true rfl) rfl rfl (List.mem_cons_of_mem _ (List.mem_append_left _ (List.mem_append_left _ (List.mem_append_left _ (List.mem_of_getElem? (i := 3) rfl))))) (Or.inl rfl) dX11_copy_132 ?_
                  refine go_iload_n hC dX11_copy_135 rfl 3 rfl ?_
                  refine go_iload hC dX11_copy_136 4 rfl ?_
                  obtain ⟨r_17, hc, hf⟩ := bd_e1 hf
                  refine go_callS hC (c_X8_spot x3 x4 h_1 r_17 hc) gX11_copy_X8_spot rfl ⟨rfl, rfl⟩ 2 e_X8_spot ⟨Nat.le_of_ble_eq_true rfl, Nat.le_of_ble_eq_true rfl⟩ rfl (st := [.ref 4, .int r_16, .ref 4]) (st1 := [.int r_17, .ref 4, .int r_16, .ref 4]) rfl rfl (Nat.le_of_ble_eq_true rfl) ⟨Nat.zero_le _, Nat.zero_le _⟩ dX11_copy_138 ?_
                  refine go_iload hC dX11_copy_141 5 rfl ?_
                  obtain ⟨⟨g_19, g_20, g_21, g_22, g_23⟩, hf⟩ := gc_e hf
                  obtain ⟨h_18, eh_18, hf⟩ := lt_e hf
                  refine go_copy hC (b_4 _) (b_4 _) (List.mem_cons_of_mem _ (List.mem_append_left _ (List.mem_append_left _ (List.mem_append_left _ (List.mem_of_getElem? (i := 4) rfl))))) (List.mem_cons_of_mem _ (List.mem_append_left _ (List.mem_append_left _ (List.mem_append_left _ (List.mem_of_getElem? (i := 5) rfl))))) (List.mem_cons_of_mem _ (List.mem_append_left _ (List.mem_append_left _ (List.mem_append_left _ (List.mem_of_getElem? (i := 6) rfl))))) (List.mem_cons_of_mem _ (List.mem_append_left _ (List.mem_append_left _ (List.mem_append_left _ (List.mem_of_getElem? (i := 7) rfl))))) g_19 g_20 g_21 g_22 g_23 ⟨Nat.le_of_ble_eq_true rfl, Nat.le_of_ble_eq_true rfl⟩ dX11_copy_143 ?_
                  refine go_toph eh_18 ?_
                  refine go_iload hC dX11_copy_146 5 rfl ?_
                  obtain ⟨rfl, rfl⟩ := so_2 hf
                  exact hret _ _ rfl dX11_copy_148
                · replace hf := if_t c_26 hf
                  refine go_aload_n hC dX11_copy_110 rfl 0 rfl ?_
                  refine go_iconst hC dX11_copy_111 k1_3 ?_
                  obtain ⟨r_24, h_25, hc, hf⟩ := bd_e2 hf
                  refine go_callV hC (c_X11_faulty 3 h_1 h_25 r_24 hc) gX11_copy_X11_faulty rfl ⟨rfl, rfl⟩ 1 e_X11_faulty ⟨Nat.le_of_ble_eq_true rfl, Nat.le_of_ble_eq_true rfl⟩ (b_0 _) rfl rfl (st := []) (st1 := [.int r_24]) rfl rfl (Nat.le_of_ble_eq_true rfl) ⟨Nat.zero_le _, Nat.zero_le _⟩ dX11_copy_112 ?_
                  obtain ⟨rfl, rfl⟩ := so_2 hf
                  exact hret _ _ rfl dX11_copy_115
          · replace hf := if_f c_31 hf
            refine go_aload_n hC dX11_copy_70 rfl 0 rfl ?_
            refine go_iconst hC dX11_copy_71 k1_2 ?_
            obtain ⟨r_29, h_30, hc, hf⟩ := bd_e2 hf
            refine go_callV hC (c_X11_faulty 2 h_1 h_30 r_29 hc) gX11_copy_X11_faulty rfl ⟨rfl, rfl⟩ 1 e_X11_faulty ⟨Nat.le_of_ble_eq_true rfl, Nat.le_of_ble_eq_true rfl⟩ (b_0 _) rfl rfl (st := []) (st1 := [.int r_29]) rfl rfl (Nat.le_of_ble_eq_true rfl) ⟨Nat.zero_le _, Nat.zero_le _⟩ dX11_copy_72 ?_
            obtain ⟨rfl, rfl⟩ := so_2 hf
            exact hret _ _ rfl dX11_copy_75
        · replace hf := if_f c_34 hf
          refine go_aload_n hC dX11_copy_43 rfl 0 rfl ?_
          refine go_iconst hC dX11_copy_44 k1_1 ?_
          obtain ⟨r_32, h_33, hc, hf⟩ := bd_e2 hf
          refine go_callV hC (c_X11_faulty 1 h_1 h_33 r_32 hc) gX11_copy_X11_faulty rfl ⟨rfl, rfl⟩ 1 e_X11_faulty ⟨Nat.le_of_ble_eq_true rfl, Nat.le_of_ble_eq_true rfl⟩ (b_0 _) rfl rfl (st := []) (st1 := [.int r_32]) rfl rfl (Nat.le_of_ble_eq_true rfl) ⟨Nat.zero_le _, Nat.zero_le _⟩ dX11_copy_45 ?_
          obtain ⟨rfl, rfl⟩ := so_2 hf
          exact hret _ _ rfl dX11_copy_48
    · replace hf := if_t c_36 hf
      refine go_iconst hC dX11_copy_19 k1_m1 ?_
      obtain ⟨rfl, rfl⟩ := so_2 hf
      exact hret _ _ rfl dX11_copy_20
def vd_telling (ci a n o : Nat) (h : PH) : Option (Int32 × PH) := if ci = 1 then f_X1_telling ci a n o h else if ci = 7 then f_X7_telling ci a n o h else f_X9_telling ci a n o h
def f_X11_tell (x1 : Int32) (h : PH) : Option (Int32 × PH) :=
  bd_1 (f_X11_wayOf x1 h) fun r_1 =>
  mo_b r_1 (
  some ((-1), h)) fun o_3 =>
  bd_1 (ch_at h o_3) fun z_4 =>
  bd_2 (vd_telling z_4.1 z_4.2.1 z_4.2.2 o_3 h) fun r_5 h_6 =>
  gl_y h h_6 (
  some (r_5, h_6))
def wsX11_tell2 : List Cond := wsX11_tell ++ [Cond.methodLink RX9 7 ⟨"LampWays$Strong", "leave", "([II)V"⟩, Cond.sameMethod "LampWays$Strong" "LampWays$Chain" "leave" "([II)V", Cond.methodLink RX7 30 ⟨"LampWays$Ring", "leave", "([II)V"⟩, Cond.sameMethod "LampWays$Ring" "LampWays$Chain" "leave" "([II)V"]
theorem hX11_tell_X11_wayOf : GoodIn wsX11_tell2 (wsV RX11 205 RX11 yX11_wayOf wsX11_wayOf) := gi_l gX11_tell_X11_wayOf
theorem hX11_tell_X1_telling : GoodIn wsX11_tell2 (wsV RX11 358 RX1 yX1_telling wsX1_telling) := gi_l gX11_tell_X1_telling
set_option maxRecDepth 100000 in
theorem hX11_tell_X7_telling_u358X7 : GoodIn wsX11_tell2 (va_wsO RX11 358 RX7 "LampWays$Chain" ⟨"LampWays$Chain", "telling", "([I)I"⟩ yX7_telling wsX7_telling2) := gi_x (gi_l gX11_tell_X7_telling_u358X7) (goodIn_of [Cond.methodLink RX7 30 ⟨"LampWays$Ring", "leave", "([II)V"⟩, Cond.sameMethod "LampWays$Ring" "LampWays$Chain" "leave" "([II)V"] (by decide +kernel))
set_option maxRecDepth 100000 in
theorem hX11_tell_X9_telling_u358X9 : GoodIn wsX11_tell2 (va_wsO RX11 358 RX9 "LampWays$Chain" ⟨"LampWays$Chain", "telling", "([I)I"⟩ yX9_telling wsX9_telling2) := gi_x (gi_l gX11_tell_X9_telling_u358X9) (goodIn_of [Cond.methodLink RX9 7 ⟨"LampWays$Strong", "leave", "([II)V"⟩, Cond.sameMethod "LampWays$Strong" "LampWays$Chain" "leave" "([II)V", Cond.methodLink RX7 30 ⟨"LampWays$Ring", "leave", "([II)V"⟩, Cond.sameMethod "LampWays$Ring" "LampWays$Chain" "leave" "([II)V"] (by decide +kernel))
set_option maxRecDepth 100000 in
theorem vc_X11_tell_19 {C : GC} (hC : Cx C cX11_tell 3 wsX11_tell2 RX11 (some .int) (rm_d 4)) (ci a n o : Nat) (hci : ci = 1 ∨ ci = 7 ∨ ci = 9)  (h : PH) (h1 : PH) (r : Int32) (ho : (l0_B ++ h.2.2.2)[o]? = some (.inr (ci, [(0, 0), (0, 0), (2, a)]))) (ha : (l0_B ++ h.2.2.2)[a]? = some (.inl (0, n))) (hc : vd_telling ci a n o h = some (r, h1)) {L : List (Nat × Value)} {st : List Value} (hsum : (st.map fun v => v.category).sum ≤ 8) (kk : Go l0_B C 0 0 22 L (.int r :: st) h1) : Go l0_B C 0 0 19 L (.ref 42 :: .ref o :: st) h := by
  rcases hci with rfl | rfl | rfl
  · exact go_callV hC (c_X1_telling_X1 a n o h h1 r ho ha hc) hX11_tell_X1_telling rfl ⟨rfl, rfl⟩ 1 e_X1_telling ⟨Nat.le_of_ble_eq_true rfl, Nat.le_of_ble_eq_true rfl⟩ ho rfl rfl (st := st) (st1 := (.int r :: st)) rfl rfl hsum ⟨Nat.zero_le _, Nat.zero_le _⟩ dX11_tell_19 kk
  · exact go_callO hC (c_X7_telling_X7 a n o h h1 r ho ha hc) hX11_tell_X7_telling_u358X7 rfl ⟨rfl, rfl⟩ (List.mem_append_left _ (List.mem_cons_of_mem _ (List.mem_append_left _ (List.mem_append_left _ (List.mem_append_left _ (List.mem_append_left _ (List.mem_append_left _ (List.mem_of_getElem? (i := 12) rfl)))))))) 1 (by decide +kernel) ⟨Nat.le_of_ble_eq_true rfl, Nat.le_of_ble_eq_true rfl⟩ ho rfl rfl (st := st) (st1 := (.int r :: st)) rfl rfl hsum ⟨Nat.zero_le _, Nat.zero_le _⟩ dX11_tell_19 kk
  · exact go_callO hC (c_X9_telling_X9 a n o h h1 r ho ha hc) hX11_tell_X9_telling_u358X9 rfl ⟨rfl, rfl⟩ (List.mem_append_left _ (List.mem_cons_of_mem _ (List.mem_append_left _ (List.mem_append_left _ (List.mem_append_left _ (List.mem_append_left _ (List.mem_append_left _ (List.mem_of_getElem? (i := 12) rfl)))))))) 1 (by decide +kernel) ⟨Nat.le_of_ble_eq_true rfl, Nat.le_of_ble_eq_true rfl⟩ ho rfl rfl (st := st) (st1 := (.int r :: st)) rfl rfl hsum ⟨Nat.zero_le _, Nat.zero_le _⟩ dX11_tell_19 kk
theorem e_X11_tell : yX11_tell.cls = RX11 ∧ yX11_tell.cls ≠ "java/lang/invoke/MethodHandle" ∧ yX11_tell.cls ≠ "java/lang/invoke/VarHandle" ∧ (parseMethodDescriptor yX11_tell.desc).map (fun d => d.parameters.length) = some 1 := by decide +kernel
set_option maxRecDepth 100000 in
set_option maxHeartbeats 4000000 in
theorem c_X11_tell (x1 : Int32) (h : PH) (h2 : PH) (r : Int32) (hf : f_X11_tell x1 h = some (r, h2)) : Con yX11_tell wsX11_tell2 (rm_d 4) l0_B [.ref 0, .int x1] h (some (.int r)) h2 := by
  have hn11 : ∀ w ∈ wsX110, w ∈ wsX11_tell2 := (fun _ hw => (List.mem_append_left _ (List.mem_cons_of_mem _ (List.mem_append_left _ (List.mem_append_left _ (List.mem_append_left _ (List.mem_append_right _ hw)))))))
  refine con_i (ty := .int) (cc := cX11_tell) (nL := 3) (by decide) rfl (Nat.le_of_ble_eq_true rfl) ?_
  intro C hC hret
  change Go l0_B C 0 0 0 [(0, .ref 0), (1, .int x1)] [] h
  unfold f_X11_tell at hf
  refine go_aload_n hC dX11_tell_0 rfl 0 rfl ?_
  refine go_iload_n hC dX11_tell_1 rfl 1 rfl ?_
  obtain ⟨r_1, hc, hf⟩ := bd_e1 hf
  refine go_callV hC (c_X11_wayOf x1 h r_1 hc) hX11_tell_X11_wayOf rfl ⟨rfl, rfl⟩ 1 e_X11_wayOf ⟨Nat.le_of_ble_eq_true rfl, Nat.le_of_ble_eq_true rfl⟩ (b_0 _) rfl rfl (st := []) (st1 := (rv_o r_1 :: [])) rfl rfl (Nat.le_of_ble_eq_true rfl) ⟨Nat.zero_le _, Nat.zero_le _⟩ dX11_tell_2 ?_
  rcases mo_e hf with ⟨q_2, hf⟩ | ⟨o_3, q_2, hf⟩
  · refine go_topn q_2 ?_
    refine go_astore_nN hC dX11_tell_5 rfl (Nat.le_of_ble_eq_true rfl) rfl ?_
    refine go_aload_nN hC dX11_tell_6 rfl 0 rfl ?_
    refine go_ifnonnullN hC dX11_tell_7 ?_
    refine go_iconst hC dX11_tell_10 k1_m1 ?_
    refine go_goto hC dX11_tell_11 (tgt := 22) (by decide) ?_
    obtain ⟨rfl, rfl⟩ := so_2 hf
    exact hret _ _ rfl dX11_tell_22
  · refine go_tops q_2 ?_
    obtain ⟨z_4, hz_4, hf⟩ := bd_e1 hf
    obtain ⟨hcz_4, hoz_4, haz_4⟩ := ch_e hz_4
    refine go_astore_n hC dX11_tell_5 rfl (Nat.le_of_ble_eq_true rfl) rfl ?_
    refine go_aload_n hC dX11_tell_6 rfl 0 rfl ?_
    refine go_ifnonnull hC dX11_tell_7 (tgt := 14) (by decide) ?_
    refine go_aload_n hC dX11_tell_14 rfl 0 rfl ?_
    refine go_aload_n hC dX11_tell_15 rfl 1 rfl ?_
    refine go_getr hC (j := 10) (idx := 73) (nm := "tracing") (ds := "[I") (b_0 _) rfl rfl hn11 (Nat.le_of_ble_eq_true rfl) rfl rfl (List.mem_append_left _ (List.mem_cons_of_mem _ (List.mem_append_left _ (List.mem_append_left _ (List.mem_append_left _ (List.mem_append_left _ (List.mem_append_left _ (List.mem_of_getElem? (i := 0) rfl)))))))) (Or.inl rfl) dX11_tell_16 ?_
    obtain ⟨r_5, h_6, hc, hf⟩ := bd_e2 hf
    refine vc_X11_tell_19 hC z_4.1 z_4.2.1 z_4.2.2 o_3 hcz_4 h h_6 r_5 hoz_4 haz_4 hc (st := []) (Nat.le_of_ble_eq_true rfl) ?_
    obtain ⟨hl9, hf⟩ := gl_e hf
    replace hoz_4 : (l0_B ++ h_6.2.2.2)[o_3]? = some (.inr (z_4.1, [(0, 0), (0, 0), (2, z_4.2.1)])) := by rw [hl9]; exact hoz_4
    replace haz_4 : (l0_B ++ h_6.2.2.2)[z_4.2.1]? = some (.inl (0, z_4.2.2)) := by rw [hl9]; exact haz_4
    obtain ⟨rfl, rfl⟩ := so_2 hf
    exact hret _ _ rfl dX11_tell_22
def vd_labelled (ci a n o : Nat) (h : PH) : Option (Int32 × PH) := if ci = 1 then f_X1_labelled ci a n o h else if ci = 7 then f_X1_labelled ci a n o h else f_X9_labelled ci a n o h
def f_X11_label (x1 : Int32) (h : PH) : Option (Int32 × PH) :=
  bd_1 (f_X11_wayOf x1 h) fun r_1 =>
  mo_b r_1 (
  some ((-1), h)) fun o_3 =>
  bd_1 (ch_at h o_3) fun z_4 =>
  bd_2 (vd_labelled z_4.1 z_4.2.1 z_4.2.2 o_3 h) fun r_5 h_6 =>
  gl_y h h_6 (
  some (r_5, h_6))
def wsX11_label2 : List Cond := wsX11_label ++ [Cond.methodLink RX9 7 ⟨"LampWays$Strong", "leave", "([II)V"⟩, Cond.sameMethod "LampWays$Strong" "LampWays$Chain" "leave" "([II)V"]
theorem hX11_label_X11_wayOf : GoodIn wsX11_label2 (wsV RX11 205 RX11 yX11_wayOf wsX11_wayOf) := gi_l gX11_label_X11_wayOf
theorem hX11_label_X1_labelled : GoodIn wsX11_label2 (wsV RX11 362 RX1 yX1_labelled wsX1_labelled) := gi_l gX11_label_X1_labelled
theorem hX11_label_X1_labelled_u362X7 : GoodIn wsX11_label2 (va_wsU RX11 362 RX7 "LampWays$Chain" ⟨"LampWays$Chain", "labelled", "([I)I"⟩ yX1_labelled wsX1_labelled) := gi_l gX11_label_X1_labelled_u362X7
set_option maxRecDepth 100000 in
theorem hX11_label_X9_labelled_u362X9 : GoodIn wsX11_label2 (va_wsO RX11 362 RX9 "LampWays$Chain" ⟨"LampWays$Chain", "labelled", "([I)I"⟩ yX9_labelled wsX9_labelled2) := gi_x (gi_l gX11_label_X9_labelled_u362X9) (goodIn_of [Cond.static yX1_leave, Cond.initialized RX1, Cond.code yX1_leave cX1_leave 2 none, Cond.methodLink RX9 7 ⟨"LampWays$Strong", "leave", "([II)V"⟩, Cond.sameMethod "LampWays$Strong" "LampWays$Chain" "leave" "([II)V"] (by decide +kernel))
set_option maxRecDepth 100000 in
theorem vc_X11_label_19 {C : GC} (hC : Cx C cX11_label 3 wsX11_label2 RX11 (some .int) (rm_d 2)) (ci a n o : Nat) (hci : ci = 1 ∨ ci = 7 ∨ ci = 9)  (h : PH) (h1 : PH) (r : Int32) (ho : (l0_B ++ h.2.2.2)[o]? = some (.inr (ci, [(0, 0), (0, 0), (2, a)]))) (ha : (l0_B ++ h.2.2.2)[a]? = some (.inl (0, n))) (hc : vd_labelled ci a n o h = some (r, h1)) {L : List (Nat × Value)} {st : List Value} (hsum : (st.map fun v => v.category).sum ≤ 8) (kk : Go l0_B C 0 0 22 L (.int r :: st) h1) : Go l0_B C 0 0 19 L (.ref 42 :: .ref o :: st) h := by
  rcases hci with rfl | rfl | rfl
  · exact go_callV hC (c_X1_labelled_X1 a n o h h1 r ho ha hc) hX11_label_X1_labelled rfl ⟨rfl, rfl⟩ 1 e_X1_labelled ⟨Nat.le_of_ble_eq_true rfl, Nat.le_of_ble_eq_true rfl⟩ ho rfl rfl (st := st) (st1 := (.int r :: st)) rfl rfl hsum ⟨Nat.zero_le _, Nat.zero_le _⟩ dX11_label_19 kk
  · exact go_callU hC (c_X1_labelled_X7 a n o h h1 r ho ha hc) hX11_label_X1_labelled_u362X7 rfl ⟨rfl, rfl⟩ rfl 1 (by decide +kernel) ⟨Nat.le_of_ble_eq_true rfl, Nat.le_of_ble_eq_true rfl⟩ ho rfl rfl (st := st) (st1 := (.int r :: st)) rfl rfl hsum ⟨Nat.zero_le _, Nat.zero_le _⟩ dX11_label_19 kk
  · exact go_callO hC (c_X9_labelled_X9 a n o h h1 r ho ha hc) hX11_label_X9_labelled_u362X9 rfl ⟨rfl, rfl⟩ (List.mem_append_left _ (List.mem_cons_of_mem _ (List.mem_append_left _ (List.mem_append_left _ (List.mem_append_left _ (List.mem_append_left _ (List.mem_append_left _ (List.mem_of_getElem? (i := 12) rfl)))))))) 1 (by decide +kernel) ⟨Nat.le_of_ble_eq_true rfl, Nat.le_of_ble_eq_true rfl⟩ ho rfl rfl (st := st) (st1 := (.int r :: st)) rfl rfl hsum ⟨Nat.zero_le _, Nat.zero_le _⟩ dX11_label_19 kk
theorem e_X11_label : yX11_label.cls = RX11 ∧ yX11_label.cls ≠ "java/lang/invoke/MethodHandle" ∧ yX11_label.cls ≠ "java/lang/invoke/VarHandle" ∧ (parseMethodDescriptor yX11_label.desc).map (fun d => d.parameters.length) = some 1 := by decide +kernel
set_option maxRecDepth 100000 in
set_option maxHeartbeats 4000000 in
theorem c_X11_label (x1 : Int32) (h : PH) (h2 : PH) (r : Int32) (hf : f_X11_label x1 h = some (r, h2)) : Con yX11_label wsX11_label2 (rm_d 2) l0_B [.ref 0, .int x1] h (some (.int r)) h2 := by
  have hn11 : ∀ w ∈ wsX110, w ∈ wsX11_label2 := (fun _ hw => (List.mem_append_left _ (List.mem_cons_of_mem _ (List.mem_append_left _ (List.mem_append_left _ (List.mem_append_left _ (List.mem_append_right _ hw)))))))
  refine con_i (ty := .int) (cc := cX11_label) (nL := 3) (by decide) rfl (Nat.le_of_ble_eq_true rfl) ?_
  intro C hC hret
  change Go l0_B C 0 0 0 [(0, .ref 0), (1, .int x1)] [] h
  unfold f_X11_label at hf
  refine go_aload_n hC dX11_label_0 rfl 0 rfl ?_
  refine go_iload_n hC dX11_label_1 rfl 1 rfl ?_
  obtain ⟨r_1, hc, hf⟩ := bd_e1 hf
  refine go_callV hC (c_X11_wayOf x1 h r_1 hc) hX11_label_X11_wayOf rfl ⟨rfl, rfl⟩ 1 e_X11_wayOf ⟨Nat.le_of_ble_eq_true rfl, Nat.le_of_ble_eq_true rfl⟩ (b_0 _) rfl rfl (st := []) (st1 := (rv_o r_1 :: [])) rfl rfl (Nat.le_of_ble_eq_true rfl) ⟨Nat.zero_le _, Nat.zero_le _⟩ dX11_label_2 ?_
  rcases mo_e hf with ⟨q_2, hf⟩ | ⟨o_3, q_2, hf⟩
  · refine go_topn q_2 ?_
    refine go_astore_nN hC dX11_label_5 rfl (Nat.le_of_ble_eq_true rfl) rfl ?_
    refine go_aload_nN hC dX11_label_6 rfl 0 rfl ?_
    refine go_ifnonnullN hC dX11_label_7 ?_
    refine go_iconst hC dX11_label_10 k1_m1 ?_
    refine go_goto hC dX11_label_11 (tgt := 22) (by decide) ?_
    obtain ⟨rfl, rfl⟩ := so_2 hf
    exact hret _ _ rfl dX11_label_22
  · refine go_tops q_2 ?_
    obtain ⟨z_4, hz_4, hf⟩ := bd_e1 hf
    obtain ⟨hcz_4, hoz_4, haz_4⟩ := ch_e hz_4
    refine go_astore_n hC dX11_label_5 rfl (Nat.le_of_ble_eq_true rfl) rfl ?_
    refine go_aload_n hC dX11_label_6 rfl 0 rfl ?_
    refine go_ifnonnull hC dX11_label_7 (tgt := 14) (by decide) ?_
    refine go_aload_n hC dX11_label_14 rfl 0 rfl ?_
    refine go_aload_n hC dX11_label_15 rfl 1 rfl ?_
    refine go_getr hC (j := 10) (idx := 73) (nm := "tracing") (ds := "[I") (b_0 _) rfl rfl hn11 (Nat.le_of_ble_eq_true rfl) rfl rfl (List.mem_append_left _ (List.mem_cons_of_mem _ (List.mem_append_left _ (List.mem_append_left _ (List.mem_append_left _ (List.mem_append_left _ (List.mem_append_left _ (List.mem_of_getElem? (i := 0) rfl)))))))) (Or.inl rfl) dX11_label_16 ?_
    obtain ⟨r_5, h_6, hc, hf⟩ := bd_e2 hf
    refine vc_X11_label_19 hC z_4.1 z_4.2.1 z_4.2.2 o_3 hcz_4 h h_6 r_5 hoz_4 haz_4 hc (st := []) (Nat.le_of_ble_eq_true rfl) ?_
    obtain ⟨hl9, hf⟩ := gl_e hf
    replace hoz_4 : (l0_B ++ h_6.2.2.2)[o_3]? = some (.inr (z_4.1, [(0, 0), (0, 0), (2, z_4.2.1)])) := by rw [hl9]; exact hoz_4
    replace haz_4 : (l0_B ++ h_6.2.2.2)[z_4.2.1]? = some (.inl (0, z_4.2.2)) := by rw [hl9]; exact haz_4
    obtain ⟨rfl, rfl⟩ := so_2 hf
    exact hret _ _ rfl dX11_label_22
def f_X11_as (x1 : Int32) (x2 : Int32) (h : PH) : Option (Int32 × PH) :=
  lt_b (ph_i h 0 11 0) fun h_1 =>
  bd_1 (f_X11_wayOf x1 h_1) fun r_2 =>
  mo_b r_2 (
  some ((-1), h_1)) fun o_4 =>
  bd_1 (ch_at h_1 o_4) fun z_5 =>
  bd_1 (f_X11_isKind x2 h_1) fun r_6 =>
  if r_6 = 0 then (
  some ((-2), h_1))
  else (
  if x2 = 1 then (
  if (if z_5.1 = 1 then (0 : Int32) else 1) = 0 then (
  bd_2 (f_X11_faulty 2 h_1) fun r_11 h_12 =>
  gl_y h_1 h_12 (
  some (r_11, h_12)))
  else (
  if x2 = 2 then (
  if (if z_5.1 = 9 then (1 : Int32) else 0) = 0 then (
  bd_2 (f_X11_faulty 2 h_1) fun r_13 h_14 =>
  gl_y h_1 h_14 (
  some (r_13, h_14)))
  else (
  some (1, h_1)))
  else (
  some (1, h_1))))
  else (
  if x2 = 2 then (
  if (if z_5.1 = 9 then (1 : Int32) else 0) = 0 then (
  bd_2 (f_X11_faulty 2 h_1) fun r_7 h_8 =>
  gl_y h_1 h_8 (
  some (r_7, h_8)))
  else (
  some (1, h_1)))
  else (
  some (1, h_1))))
theorem e_X11_as : yX11_as.cls = RX11 ∧ yX11_as.cls ≠ "java/lang/invoke/MethodHandle" ∧ yX11_as.cls ≠ "java/lang/invoke/VarHandle" ∧ (parseMethodDescriptor yX11_as.desc).map (fun d => d.parameters.length) = some 2 := by decide +kernel
set_option maxRecDepth 100000 in
set_option maxHeartbeats 4000000 in
theorem c_X11_as (x1 : Int32) (x2 : Int32) (h : PH) (h2 : PH) (r : Int32) (hf : f_X11_as x1 x2 h = some (r, h2)) : Con yX11_as wsX11_as (rm_d 1) l0_B [.ref 0, .int x1, .int x2] h (some (.int r)) h2 := by
  have hn11 : ∀ w ∈ wsX110, w ∈ wsX11_as := (fun _ hw => (List.mem_cons_of_mem _ (List.mem_append_right _ hw)))
  refine con_i (ty := .int) (cc := cX11_as) (nL := 4) (by decide) rfl (Nat.le_of_ble_eq_true rfl) ?_
  intro C hC hret
  change Go l0_B C 0 0 0 [(0, .ref 0), (1, .int x1), (2, .int x2)] [] h
  unfold f_X11_as at hf
  refine go_aload_n hC dX11_as_0 rfl 0 rfl ?_
  refine go_iconst hC dX11_as_1 k1_0 ?_
  obtain ⟨h_1, eh_1, hf⟩ := lt_e hf
  refine go_puti hC tyX11 (j := 11) (idx := 77) (nm := "latestFault") (ds := "I") (b_0 _) rfl rfl hn11 tyX11_ok nmX11 (Nat.le_of_ble_eq_true rfl) rfl rfl (List.mem_cons_of_mem _ (List.mem_append_left _ (List.mem_of_getElem? (i := 0) rfl))) (Or.inl rfl) rfl (tyX11_ok _ (Nat.le_of_ble_eq_true rfl)) dX11_as_2 ?_
  refine go_toph eh_1 ?_
  refine go_aload_n hC dX11_as_5 rfl 0 rfl ?_
  refine go_iload_n hC dX11_as_6 rfl 1 rfl ?_
  obtain ⟨r_2, hc, hf⟩ := bd_e1 hf
  refine go_callV hC (c_X11_wayOf x1 h_1 r_2 hc) gX11_as_X11_wayOf rfl ⟨rfl, rfl⟩ 1 e_X11_wayOf ⟨Nat.le_of_ble_eq_true rfl, Nat.le_of_ble_eq_true rfl⟩ (b_0 _) rfl rfl (st := []) (st1 := (rv_o r_2 :: [])) rfl rfl (Nat.le_of_ble_eq_true rfl) ⟨Nat.zero_le _, Nat.zero_le _⟩ dX11_as_7 ?_
  rcases mo_e hf with ⟨q_3, hf⟩ | ⟨o_4, q_3, hf⟩
  · refine go_topn q_3 ?_
    refine go_astore_nN hC dX11_as_10 rfl (Nat.le_of_ble_eq_true rfl) rfl ?_
    refine go_aload_nN hC dX11_as_11 rfl 0 rfl ?_
    refine go_ifnonnullN hC dX11_as_12 ?_
    refine go_iconst hC dX11_as_15 k1_m1 ?_
    obtain ⟨rfl, rfl⟩ := so_2 hf
    exact hret _ _ rfl dX11_as_16
  · refine go_tops q_3 ?_
    obtain ⟨z_5, hz_5, hf⟩ := bd_e1 hf
    obtain ⟨hcz_5, hoz_5, haz_5⟩ := ch_e hz_5
    refine go_astore_n hC dX11_as_10 rfl (Nat.le_of_ble_eq_true rfl) rfl ?_
    refine go_aload_n hC dX11_as_11 rfl 0 rfl ?_
    refine go_ifnonnull hC dX11_as_12 (tgt := 17) (by decide) ?_
    refine go_iload_n hC dX11_as_17 rfl 3 rfl ?_
    obtain ⟨r_6, hc, hf⟩ := bd_e1 hf
    refine go_callS hC (c_X11_isKind x2 h_1 r_6 hc) gX11_as_X11_isKind rfl ⟨rfl, rfl⟩ 1 e_X11_isKind ⟨Nat.le_of_ble_eq_true rfl, Nat.le_of_ble_eq_true rfl⟩ rfl (st := []) (st1 := [.int r_6]) rfl rfl (Nat.le_of_ble_eq_true rfl) ⟨Nat.zero_le _, Nat.zero_le _⟩ dX11_as_18 ?_
    refine go_if_ne hC dX11_as_21 (tgt := 27) (by decide) (fun c_19 => ?_) (fun c_19 => ?_)
    · replace hf := if_f c_19 hf
      refine go_iload_n hC dX11_as_27 rfl 3 rfl ?_
      refine go_iconst hC dX11_as_28 k1_1 ?_
      refine go_icmp_ne hC dX11_as_29 (tgt := 39) (by decide) (fun c_18 => ?_) (fun c_18 => ?_)
      · replace hf := if_f c_18 hf
        refine go_iload_n hC dX11_as_39 rfl 3 rfl ?_
        refine go_iconst hC dX11_as_40 k1_2 ?_
        refine go_icmp_ne hC dX11_as_41 (tgt := 57) (by decide) (fun c_10 => ?_) (fun c_10 => ?_)
        · replace hf := if_f c_10 hf
          refine go_iconst hC dX11_as_57 k1_1 ?_
          obtain ⟨rfl, rfl⟩ := so_2 hf
          exact hret _ _ rfl dX11_as_58
        · replace hf := if_t c_10 hf
          refine go_aload_n hC dX11_as_44 rfl 0 rfl ?_
          refine go_isS hC hoz_5 hcz_5 (List.mem_cons_of_mem _ (List.mem_append_left _ (List.mem_of_getElem? (i := 2) rfl))) dX11_as_45 ?_
          refine go_if_ne hC dX11_as_48 (tgt := 57) (by decide) (fun c_9 => ?_) (fun c_9 => ?_)
          · replace hf := if_f c_9 hf
            refine go_iconst hC dX11_as_57 k1_1 ?_
            obtain ⟨rfl, rfl⟩ := so_2 hf
            exact hret _ _ rfl dX11_as_58
          · replace hf := if_t c_9 hf
            refine go_aload_n hC dX11_as_51 rfl 1 rfl ?_
            refine go_iconst hC dX11_as_52 k1_2 ?_
            obtain ⟨r_7, h_8, hc, hf⟩ := bd_e2 hf
            refine go_callV hC (c_X11_faulty 2 h_1 h_8 r_7 hc) gX11_as_X11_faulty rfl ⟨rfl, rfl⟩ 1 e_X11_faulty ⟨Nat.le_of_ble_eq_true rfl, Nat.le_of_ble_eq_true rfl⟩ (b_0 _) rfl rfl (st := []) (st1 := [.int r_7]) rfl rfl (Nat.le_of_ble_eq_true rfl) ⟨Nat.zero_le _, Nat.zero_le _⟩ dX11_as_53 ?_
            obtain ⟨hl9, hf⟩ := gl_e hf
            replace hoz_5 : (l0_B ++ h_8.2.2.2)[o_4]? = some (.inr (z_5.1, [(0, 0), (0, 0), (2, z_5.2.1)])) := by rw [hl9]; exact hoz_5
            replace haz_5 : (l0_B ++ h_8.2.2.2)[z_5.2.1]? = some (.inl (0, z_5.2.2)) := by rw [hl9]; exact haz_5
            obtain ⟨rfl, rfl⟩ := so_2 hf
            exact hret _ _ rfl dX11_as_56
      · replace hf := if_t c_18 hf
        refine go_aload_n hC dX11_as_32 rfl 0 rfl ?_
        refine go_isR hC hoz_5 hcz_5 (List.mem_cons_of_mem _ (List.mem_append_left _ (List.mem_of_getElem? (i := 1) rfl))) dX11_as_33 ?_
        refine go_if_eq hC dX11_as_36 (tgt := 51) (by decide) (fun c_17 => ?_) (fun c_17 => ?_)
        · replace hf := if_t c_17 hf
          refine go_aload_n hC dX11_as_51 rfl 1 rfl ?_
          refine go_iconst hC dX11_as_52 k1_2 ?_
          obtain ⟨r_11, h_12, hc, hf⟩ := bd_e2 hf
          refine go_callV hC (c_X11_faulty 2 h_1 h_12 r_11 hc) gX11_as_X11_faulty rfl ⟨rfl, rfl⟩ 1 e_X11_faulty ⟨Nat.le_of_ble_eq_true rfl, Nat.le_of_ble_eq_true rfl⟩ (b_0 _) rfl rfl (st := []) (st1 := [.int r_11]) rfl rfl (Nat.le_of_ble_eq_true rfl) ⟨Nat.zero_le _, Nat.zero_le _⟩ dX11_as_53 ?_
          obtain ⟨hl9, hf⟩ := gl_e hf
          replace hoz_5 : (l0_B ++ h_12.2.2.2)[o_4]? = some (.inr (z_5.1, [(0, 0), (0, 0), (2, z_5.2.1)])) := by rw [hl9]; exact hoz_5
          replace haz_5 : (l0_B ++ h_12.2.2.2)[z_5.2.1]? = some (.inl (0, z_5.2.2)) := by rw [hl9]; exact haz_5
          obtain ⟨rfl, rfl⟩ := so_2 hf
          exact hret _ _ rfl dX11_as_56
        · replace hf := if_f c_17 hf
          refine go_iload_n hC dX11_as_39 rfl 3 rfl ?_
          refine go_iconst hC dX11_as_40 k1_2 ?_
          refine go_icmp_ne hC dX11_as_41 (tgt := 57) (by decide) (fun c_16 => ?_) (fun c_16 => ?_)
          · replace hf := if_f c_16 hf
            refine go_iconst hC dX11_as_57 k1_1 ?_
            obtain ⟨rfl, rfl⟩ := so_2 hf
            exact hret _ _ rfl dX11_as_58
          · replace hf := if_t c_16 hf
            refine go_aload_n hC dX11_as_44 rfl 0 rfl ?_
            refine go_isS hC hoz_5 hcz_5 (List.mem_cons_of_mem _ (List.mem_append_left _ (List.mem_of_getElem? (i := 2) rfl))) dX11_as_45 ?_
            refine go_if_ne hC dX11_as_48 (tgt := 57) (by decide) (fun c_15 => ?_) (fun c_15 => ?_)
            · replace hf := if_f c_15 hf
              refine go_iconst hC dX11_as_57 k1_1 ?_
              obtain ⟨rfl, rfl⟩ := so_2 hf
              exact hret _ _ rfl dX11_as_58
            · replace hf := if_t c_15 hf
              refine go_aload_n hC dX11_as_51 rfl 1 rfl ?_
              refine go_iconst hC dX11_as_52 k1_2 ?_
              obtain ⟨r_13, h_14, hc, hf⟩ := bd_e2 hf
              refine go_callV hC (c_X11_faulty 2 h_1 h_14 r_13 hc) gX11_as_X11_faulty rfl ⟨rfl, rfl⟩ 1 e_X11_faulty ⟨Nat.le_of_ble_eq_true rfl, Nat.le_of_ble_eq_true rfl⟩ (b_0 _) rfl rfl (st := []) (st1 := [.int r_13]) rfl rfl (Nat.le_of_ble_eq_true rfl) ⟨Nat.zero_le _, Nat.zero_le _⟩ dX11_as_53 ?_
              obtain ⟨hl9, hf⟩ := gl_e hf
              replace hoz_5 : (l0_B ++ h_14.2.2.2)[o_4]? = some (.inr (z_5.1, [(0, 0), (0, 0), (2, z_5.2.1)])) := by rw [hl9]; exact hoz_5
              replace haz_5 : (l0_B ++ h_14.2.2.2)[z_5.2.1]? = some (.inl (0, z_5.2.2)) := by rw [hl9]; exact haz_5
              obtain ⟨rfl, rfl⟩ := so_2 hf
              exact hret _ _ rfl dX11_as_56
    · replace hf := if_t c_19 hf
      refine go_bipush hC dX11_as_24 k8_m2 ?_
      obtain ⟨rfl, rfl⟩ := so_2 hf
      exact hret _ _ rfl dX11_as_26
def f_X11_trace (h : PH) : Option (Int32) :=
  ga_i 0 1 (
  some (h.1 42 (0 : Int32).toNatClampNeg))
theorem e_X11_trace : yX11_trace.cls = RX11 ∧ yX11_trace.cls ≠ "java/lang/invoke/MethodHandle" ∧ yX11_trace.cls ≠ "java/lang/invoke/VarHandle" ∧ (parseMethodDescriptor yX11_trace.desc).map (fun d => d.parameters.length) = some 0 := by decide +kernel
set_option maxRecDepth 100000 in
set_option maxHeartbeats 4000000 in
theorem c_X11_trace (h : PH) (r : Int32) (hf : f_X11_trace h = some r) : Con yX11_trace wsX11_trace (rm_d 0) l0_B [.ref 0] h (some (.int r)) h := by
  have hn11 : ∀ w ∈ wsX110, w ∈ wsX11_trace := (fun _ hw => (List.mem_cons_of_mem _ (List.mem_append_right _ hw)))
  refine con_i (ty := .int) (cc := cX11_trace) (nL := 1) (by decide) rfl (Nat.le_of_ble_eq_true rfl) ?_
  intro C hC hret
  change Go l0_B C 0 0 0 [(0, .ref 0)] [] h
  unfold f_X11_trace at hf
  refine go_aload_n hC dX11_trace_0 rfl 0 rfl ?_
  refine go_getr hC (j := 10) (idx := 73) (nm := "tracing") (ds := "[I") (b_0 _) rfl rfl hn11 (Nat.le_of_ble_eq_true rfl) rfl rfl (List.mem_cons_of_mem _ (List.mem_append_left _ (List.mem_of_getElem? (i := 0) rfl))) (Or.inl rfl) dX11_trace_1 ?_
  refine go_iconst hC dX11_trace_4 k1_0 ?_
  obtain ⟨g_1, hf⟩ := ga_e hf
  refine go_iald hC (b_42 _) g_1 dX11_trace_5 ?_
  obtain rfl := so_1 hf
  exact hret _ _ rfl dX11_trace_6
def f_X11_fault (h : PH) : Option (Int32) :=
  some (h.1 0 11)
theorem e_X11_fault : yX11_fault.cls = RX11 ∧ yX11_fault.cls ≠ "java/lang/invoke/MethodHandle" ∧ yX11_fault.cls ≠ "java/lang/invoke/VarHandle" ∧ (parseMethodDescriptor yX11_fault.desc).map (fun d => d.parameters.length) = some 0 := by decide +kernel
set_option maxRecDepth 100000 in
set_option maxHeartbeats 4000000 in
theorem c_X11_fault (h : PH) (r : Int32) (hf : f_X11_fault h = some r) : Con yX11_fault wsX11_fault (rm_d 0) l0_B [.ref 0] h (some (.int r)) h := by
  have hn11 : ∀ w ∈ wsX110, w ∈ wsX11_fault := (fun _ hw => (List.mem_cons_of_mem _ (List.mem_append_right _ hw)))
  refine con_i (ty := .int) (cc := cX11_fault) (nL := 1) (by decide) rfl (Nat.le_of_ble_eq_true rfl) ?_
  intro C hC hret
  change Go l0_B C 0 0 0 [(0, .ref 0)] [] h
  unfold f_X11_fault at hf
  refine go_aload_n hC dX11_fault_0 rfl 0 rfl ?_
  refine go_geti hC (j := 11) (idx := 77) (nm := "latestFault") (ds := "I") (b_0 _) rfl rfl hn11 (Nat.le_of_ble_eq_true rfl) rfl rfl (List.mem_cons_of_mem _ (List.mem_append_left _ (List.mem_of_getElem? (i := 0) rfl))) (Or.inl rfl) dX11_fault_1 ?_
  obtain rfl := so_1 hf
  exact hret _ _ rfl dX11_fault_4
def lb_X11_howManyWays_4 (h : PH) (x1 : Int32) (x2 : Int32) : Option ((Int32 × Int32) ⊕ (Int32 × Int32)) :=
  if 6 ≤ x2 then (
  some (.inr (x1, x2)))
  else (
  ga_i x2 6 (
  mo_b (h.2.2.1 22 x2.toNatClampNeg) (
  lt_b (x1 + 0) fun x1_14 =>
  lt_b (x2 + 1) fun x2_15 =>
  some (.inl (x1_14, x2_15))) fun o_11 =>
  lt_b (x1 + 1) fun x1_12 =>
  lt_b (x2 + 1) fun x2_13 =>
  some (.inl (x1_12, x2_13))))
def f_X11_howManyWays (h : PH) : Option (Int32) :=
  bd_1 (lp_f (fun s => lb_X11_howManyWays_4 h s.1 s.2) fu_l (0, 0)) fun s_17 =>
  some s_17.1
set_option maxRecDepth 100000 in
set_option maxHeartbeats 4000000 in
theorem lw_X11_howManyWays_4 {C : GC} (hC : Cx C cX11_howManyWays 3 wsX11_howManyWays RX11 (some .int) (rm_d 0)) (h : PH) : ∀ (n9 : Nat) (x1 : Int32) (x2 : Int32) (y : Int32 × Int32), lp_f (fun s => lb_X11_howManyWays_4 h s.1 s.2) n9 (x1, x2) = some y → ∀ (hk : Go l0_B C 0 0 33 [(1, .int y.1)] [] h), Go l0_B C 0 0 4 [(0, .ref 0), (1, .int x1), (2, .int x2)] [] h := by
  have hn11 : ∀ w ∈ wsX110, w ∈ wsX11_howManyWays := (fun _ hw => (List.mem_cons_of_mem _ (List.mem_append_right _ hw)))
  intro n9
  induction n9 with
  | zero =>
    intro x1 x2 y hlp
    cases hlp
  | succ n9 ih =>
    intro x1 x2 y hlp hk
    obtain ⟨k9, z, hk9, hf, hy⟩ := lp_e hlp
    cases hk9
    replace hf : lb_X11_howManyWays_4 h x1 x2 = some z := hf
    unfold lb_X11_howManyWays_4 at hf
    refine go_iload_n hC dX11_howManyWays_4 rfl 2 rfl ?_
    refine go_bipush hC dX11_howManyWays_5 k8_6 ?_
    refine go_icmp_ge hC dX11_howManyWays_7 (tgt := 33) (by decide) (fun c_16 => ?_) (fun c_16 => ?_)
    · replace hf := if_t c_16 hf
      obtain rfl := so_1 hf
      obtain rfl := lp_x hy
      refine go_sub [1] rfl ?_
      exact hk
    · replace hf := if_f c_16 hf
      refine go_iload_n hC dX11_howManyWays_10 rfl 1 rfl ?_
      refine go_aload_n hC dX11_howManyWays_11 rfl 0 rfl ?_
      refine go_getr hC (j := 4) (idx := 41) (nm := "ways") (ds := "[LLampWays$Chain;") (b_0 _) rfl rfl hn11 (Nat.le_of_ble_eq_true rfl) rfl rfl (List.mem_cons_of_mem _ (List.mem_append_left _ (List.mem_of_getElem? (i := 0) rfl))) (Or.inl rfl) dX11_howManyWays_12 ?_
      refine go_iload_n hC dX11_howManyWays_15 rfl 2 rfl ?_
      obtain ⟨g_9, hf⟩ := ga_e hf
      refine go_aald hC (b_22 _) g_9 dX11_howManyWays_16 ?_
      rcases mo_e hf with ⟨q_10, hf⟩ | ⟨o_11, q_10, hf⟩
      · refine go_topn q_10 ?_
        refine go_ifnonnullN hC dX11_howManyWays_17 ?_
        refine go_iconst hC dX11_howManyWays_20 k1_0 ?_
        refine go_goto hC dX11_howManyWays_21 (tgt := 25) (by decide) ?_
        refine go_iadd hC dX11_howManyWays_25 ?_
        obtain ⟨x1_14, ex1_14, hf⟩ := lt_e hf
        refine go_topi ex1_14 ?_
        refine go_istore_n hC dX11_howManyWays_26 rfl (Nat.le_of_ble_eq_true rfl) rfl ?_
        obtain ⟨x2_15, ex2_15, hf⟩ := lt_e hf
        refine go_iinc hC dX11_howManyWays_27 2 rfl k1_1 ex2_15 (Nat.le_of_ble_eq_true rfl) rfl ?_
        refine go_goto hC dX11_howManyWays_30 (tgt := 4) (by decide) ?_
        obtain rfl := so_1 hf
        refine go_sub [2, 1, 0] rfl ?_
        exact ih x1_14 x2_15 _ (lp_c hy) hk
      · refine go_tops q_10 ?_
        refine go_ifnonnull hC dX11_howManyWays_17 (tgt := 24) (by decide) ?_
        refine go_iconst hC dX11_howManyWays_24 k1_1 ?_
        refine go_iadd hC dX11_howManyWays_25 ?_
        obtain ⟨x1_12, ex1_12, hf⟩ := lt_e hf
        refine go_topi ex1_12 ?_
        refine go_istore_n hC dX11_howManyWays_26 rfl (Nat.le_of_ble_eq_true rfl) rfl ?_
        obtain ⟨x2_13, ex2_13, hf⟩ := lt_e hf
        refine go_iinc hC dX11_howManyWays_27 2 rfl k1_1 ex2_13 (Nat.le_of_ble_eq_true rfl) rfl ?_
        refine go_goto hC dX11_howManyWays_30 (tgt := 4) (by decide) ?_
        obtain rfl := so_1 hf
        refine go_sub [2, 1, 0] rfl ?_
        exact ih x1_12 x2_13 _ (lp_c hy) hk
theorem e_X11_howManyWays : yX11_howManyWays.cls = RX11 ∧ yX11_howManyWays.cls ≠ "java/lang/invoke/MethodHandle" ∧ yX11_howManyWays.cls ≠ "java/lang/invoke/VarHandle" ∧ (parseMethodDescriptor yX11_howManyWays.desc).map (fun d => d.parameters.length) = some 0 := by decide +kernel
set_option maxRecDepth 100000 in
set_option maxHeartbeats 4000000 in
theorem c_X11_howManyWays (h : PH) (r : Int32) (hf : f_X11_howManyWays h = some r) : Con yX11_howManyWays wsX11_howManyWays (rm_d 0) l0_B [.ref 0] h (some (.int r)) h := by
  have hn11 : ∀ w ∈ wsX110, w ∈ wsX11_howManyWays := (fun _ hw => (List.mem_cons_of_mem _ (List.mem_append_right _ hw)))
  refine con_i (ty := .int) (cc := cX11_howManyWays) (nL := 3) (by decide) rfl (Nat.le_of_ble_eq_true rfl) ?_
  intro C hC hret
  change Go l0_B C 0 0 0 [(0, .ref 0)] [] h
  unfold f_X11_howManyWays at hf
  refine go_iconst hC dX11_howManyWays_0 k1_0 ?_
  refine go_istore_n hC dX11_howManyWays_1 rfl (Nat.le_of_ble_eq_true rfl) rfl ?_
  refine go_iconst hC dX11_howManyWays_2 k1_0 ?_
  refine go_istore_n hC dX11_howManyWays_3 rfl (Nat.le_of_ble_eq_true rfl) rfl ?_
  obtain ⟨s_17, hl, hf⟩ := bd_e1 hf
  refine go_sub [2, 1, 0] rfl ?_
  refine lw_X11_howManyWays_4 hC h _ 0 0 s_17 hl ?_
  refine go_iload_n hC dX11_howManyWays_33 rfl 0 rfl ?_
  obtain rfl := so_1 hf
  exact hret _ _ rfl dX11_howManyWays_34
def f_X11_many (x1 : Int32) (h : PH) : Option (Int32) :=
  if x1 = 0 then (
  some (h.1 10 0))
  else (
  if x1 = 1 then (
  some (h.1 10 2))
  else (
  if x1 = 2 then (
  bd_1 (f_X3_howManyClosed h) fun r_7 =>
  some r_7)
  else (
  if x1 = 3 then (
  some (h.1 17 0))
  else (
  if x1 = 4 then (
  bd_1 (f_X11_howManyWays h) fun r_8 =>
  some r_8)
  else (
  if x1 = 5 then (
  some (h.1 37 0))
  else (
  some (-2)))))))
theorem e_X11_many : yX11_many.cls = RX11 ∧ yX11_many.cls ≠ "java/lang/invoke/MethodHandle" ∧ yX11_many.cls ≠ "java/lang/invoke/VarHandle" ∧ (parseMethodDescriptor yX11_many.desc).map (fun d => d.parameters.length) = some 1 := by decide +kernel
set_option maxRecDepth 100000 in
set_option maxHeartbeats 4000000 in
theorem c_X11_many (x1 : Int32) (h : PH) (r : Int32) (hf : f_X11_many x1 h = some r) : Con yX11_many wsX11_many (rm_d 1) l0_B [.ref 0, .int x1] h (some (.int r)) h := by
  have hn11 : ∀ w ∈ wsX110, w ∈ wsX11_many := (fun _ hw => (List.mem_cons_of_mem _ (List.mem_append_left _ (List.mem_append_left _ (List.mem_append_left _ (List.mem_append_right _ hw))))))
  have hn3 : ∀ w ∈ wsX30, w ∈ wsX11_many := (fun _ hw => (List.mem_cons_of_mem _ (List.mem_append_left _ (List.mem_append_left _ (List.mem_append_right _ hw)))))
  have hn4 : ∀ w ∈ wsX40, w ∈ wsX11_many := (fun _ hw => (List.mem_cons_of_mem _ (List.mem_append_right _ hw)))
  have hn6 : ∀ w ∈ wsX60, w ∈ wsX11_many := (fun _ hw => (List.mem_cons_of_mem _ (List.mem_append_left _ (List.mem_append_right _ hw))))
  refine con_i (ty := .int) (cc := cX11_many) (nL := 2) (by decide) rfl (Nat.le_of_ble_eq_true rfl) ?_
  intro C hC hret
  change Go l0_B C 0 0 0 [(0, .ref 0), (1, .int x1)] [] h
  unfold f_X11_many at hf
  refine go_iload_n hC dX11_many_0 rfl 1 rfl ?_
  by_cases c_1 : x1 = 0
  · replace hf := if_t c_1 hf
    refine go_tab hC dX11_many_1 c_1 (off := 39) (by decide) (by decide) (by decide) (tgt := 40) (by decide) ?_
    refine go_aload_n hC dX11_many_40 rfl 0 rfl ?_
    refine go_getr hC (j := 2) (idx := 28) (nm := "plot") (ds := "LLampWays$House;") (b_0 _) rfl rfl hn11 (Nat.le_of_ble_eq_true rfl) rfl rfl (List.mem_cons_of_mem _ (List.mem_append_left _ (List.mem_append_left _ (List.mem_append_left _ (List.mem_append_left _ (List.mem_of_getElem? (i := 0) rfl)))))) (Or.inl rfl) dX11_many_41 ?_
    refine go_geti hC (j := 0) (idx := 292) (nm := "places") (ds := "I") (b_10 _) rfl rfl hn3 (Nat.le_of_ble_eq_true rfl) rfl rfl (List.mem_cons_of_mem _ (List.mem_append_left _ (List.mem_append_left _ (List.mem_append_left _ (List.mem_append_left _ (List.mem_of_getElem? (i := 1) rfl)))))) (Or.inl rfl) dX11_many_44 ?_
    obtain rfl := so_1 hf
    exact hret _ _ rfl dX11_many_47
  · replace hf := if_f c_1 hf
    by_cases c_2 : x1 = 1
    · replace hf := if_t c_2 hf
      refine go_tab hC dX11_many_1 c_2 (off := 47) (by decide) (by decide) (by decide) (tgt := 48) (by decide) ?_
      refine go_aload_n hC dX11_many_48 rfl 0 rfl ?_
      refine go_getr hC (j := 2) (idx := 28) (nm := "plot") (ds := "LLampWays$House;") (b_0 _) rfl rfl hn11 (Nat.le_of_ble_eq_true rfl) rfl rfl (List.mem_cons_of_mem _ (List.mem_append_left _ (List.mem_append_left _ (List.mem_append_left _ (List.mem_append_left _ (List.mem_of_getElem? (i := 0) rfl)))))) (Or.inl rfl) dX11_many_49 ?_
      refine go_geti hC (j := 2) (idx := 122) (nm := "runs") (ds := "I") (b_10 _) rfl rfl hn3 (Nat.le_of_ble_eq_true rfl) rfl rfl (List.mem_cons_of_mem _ (List.mem_append_left _ (List.mem_append_left _ (List.mem_append_left _ (List.mem_append_left _ (List.mem_of_getElem? (i := 2) rfl)))))) (Or.inl rfl) dX11_many_52 ?_
      obtain rfl := so_1 hf
      exact hret _ _ rfl dX11_many_55
    · replace hf := if_f c_2 hf
      by_cases c_3 : x1 = 2
      · replace hf := if_t c_3 hf
        refine go_tab hC dX11_many_1 c_3 (off := 55) (by decide) (by decide) (by decide) (tgt := 56) (by decide) ?_
        refine go_aload_n hC dX11_many_56 rfl 0 rfl ?_
        refine go_getr hC (j := 2) (idx := 28) (nm := "plot") (ds := "LLampWays$House;") (b_0 _) rfl rfl hn11 (Nat.le_of_ble_eq_true rfl) rfl rfl (List.mem_cons_of_mem _ (List.mem_append_left _ (List.mem_append_left _ (List.mem_append_left _ (List.mem_append_left _ (List.mem_of_getElem? (i := 0) rfl)))))) (Or.inl rfl) dX11_many_57 ?_
        obtain ⟨r_7, hc, hf⟩ := bd_e1 hf
        refine go_callV hC (c_X3_howManyClosed h r_7 hc) gX11_many_X3_howManyClosed rfl ⟨rfl, rfl⟩ 0 e_X3_howManyClosed ⟨Nat.le_of_ble_eq_true rfl, Nat.le_of_ble_eq_true rfl⟩ (b_10 _) rfl rfl (st := []) (st1 := [.int r_7]) rfl rfl (Nat.le_of_ble_eq_true rfl) ⟨Nat.zero_le _, Nat.zero_le _⟩ dX11_many_60 ?_
        obtain rfl := so_1 hf
        exact hret _ _ rfl dX11_many_63
      · replace hf := if_f c_3 hf
        by_cases c_4 : x1 = 3
        · replace hf := if_t c_4 hf
          refine go_tab hC dX11_many_1 c_4 (off := 63) (by decide) (by decide) (by decide) (tgt := 64) (by decide) ?_
          refine go_aload_n hC dX11_many_64 rfl 0 rfl ?_
          refine go_getr hC (j := 3) (idx := 35) (nm := "points") (ds := "LLampWays$Points;") (b_0 _) rfl rfl hn11 (Nat.le_of_ble_eq_true rfl) rfl rfl (List.mem_cons_of_mem _ (List.mem_append_left _ (List.mem_append_left _ (List.mem_append_left _ (List.mem_append_left _ (List.mem_of_getElem? (i := 3) rfl)))))) (Or.inl rfl) dX11_many_65 ?_
          refine go_geti hC (j := 0) (idx := 115) (nm := "count") (ds := "I") (b_17 _) rfl rfl hn6 (Nat.le_of_ble_eq_true rfl) rfl rfl (List.mem_cons_of_mem _ (List.mem_append_left _ (List.mem_append_left _ (List.mem_append_left _ (List.mem_append_left _ (List.mem_of_getElem? (i := 4) rfl)))))) (Or.inl rfl) dX11_many_68 ?_
          obtain rfl := so_1 hf
          exact hret _ _ rfl dX11_many_71
        · replace hf := if_f c_4 hf
          by_cases c_5 : x1 = 4
          · replace hf := if_t c_5 hf
            refine go_tab hC dX11_many_1 c_5 (off := 71) (by decide) (by decide) (by decide) (tgt := 72) (by decide) ?_
            refine go_aload_n hC dX11_many_72 rfl 0 rfl ?_
            obtain ⟨r_8, hc, hf⟩ := bd_e1 hf
            refine go_callV hC (c_X11_howManyWays h r_8 hc) gX11_many_X11_howManyWays rfl ⟨rfl, rfl⟩ 0 e_X11_howManyWays ⟨Nat.le_of_ble_eq_true rfl, Nat.le_of_ble_eq_true rfl⟩ (b_0 _) rfl rfl (st := []) (st1 := [.int r_8]) rfl rfl (Nat.le_of_ble_eq_true rfl) ⟨Nat.zero_le _, Nat.zero_le _⟩ dX11_many_73 ?_
            obtain rfl := so_1 hf
            exact hret _ _ rfl dX11_many_76
          · replace hf := if_f c_5 hf
            by_cases c_6 : x1 = 5
            · replace hf := if_t c_6 hf
              refine go_tab hC dX11_many_1 c_6 (off := 76) (by decide) (by decide) (by decide) (tgt := 77) (by decide) ?_
              refine go_aload_n hC dX11_many_77 rfl 0 rfl ?_
              refine go_getr hC (j := 9) (idx := 69) (nm := "meter") (ds := "LLampWays$Meter;") (b_0 _) rfl rfl hn11 (Nat.le_of_ble_eq_true rfl) rfl rfl (List.mem_cons_of_mem _ (List.mem_append_left _ (List.mem_append_left _ (List.mem_append_left _ (List.mem_append_left _ (List.mem_of_getElem? (i := 5) rfl)))))) (Or.inl rfl) dX11_many_78 ?_
              refine go_geti hC (j := 0) (idx := 118) (nm := "count") (ds := "I") (b_37 _) rfl rfl hn4 (Nat.le_of_ble_eq_true rfl) rfl rfl (List.mem_cons_of_mem _ (List.mem_append_left _ (List.mem_append_left _ (List.mem_append_left _ (List.mem_append_left _ (List.mem_of_getElem? (i := 6) rfl)))))) (Or.inl rfl) dX11_many_81 ?_
              obtain rfl := so_1 hf
              exact hret _ _ rfl dX11_many_84
            · replace hf := if_f c_6 hf
              refine go_tabOut hC dX11_many_1 (tb_6 c_1 c_2 c_3 c_4 c_5 c_6) (tgt := 85) (by decide) ?_
              refine go_bipush hC dX11_many_85 k8_m2 ?_
              obtain rfl := so_1 hf
              exact hret _ _ rfl dX11_many_87
