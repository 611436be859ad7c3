def lb_X0_measure_13 (x3 : Int32) (x4 : Int32) (h : PH) : Option ((Int32 × PH) ⊕ (Int32 × PH)) :=
  if (h.1 17 0) ≤ x4 then (
  some (.inr (x4, h)))
  else (
  ga_i x3 8 (
  ga_i x4 8 (
  bd_1 (f_X3_yardsFrom (h.1 18 x3.toNatClampNeg) (h.1 18 x4.toNatClampNeg) h) fun r_10 =>
  ga_i ((x3 * 8) + x4) 64 (
  lt_b (ph_i h 24 ((x3 * 8) + x4).toNatClampNeg r_10) fun h_12 =>
  lt_b (x4 + 1) fun x4_13 =>
  some (.inl (x4_13, h_12))))))
def lb_X0_measure_2  (x3 : Int32) (h : PH) : Option ((Int32 × PH) ⊕ (Int32 × PH)) :=
  if (h.1 17 0) ≤ x3 then (
  some (.inr (x3, h)))
  else (
  bd_1 (lp_f (fun s => lb_X0_measure_13 x3 s.1 s.2) fu_l (0, h)) fun s_18 =>
  lt_b (x3 + 1) fun x3_19 =>
  some (.inl (x3_19, s_18.2)))
def f_X0_measure (h : PH) : Option (Unit × PH) :=
  bd_1 (lp_f (fun s => lb_X0_measure_2  s.1 s.2) fu_l (0, h)) fun s_21 =>
  some ((), s_21.2)
set_option maxRecDepth 100000 in
set_option maxHeartbeats 4000000 in
theorem lw_X0_measure_13 {C : GC} (hC : Cx C cX0_measure 5 wsX0_measure RX0 none (rm_d 1)) (x3 : Int32) : ∀ (n9 : Nat) (x4 : Int32) (h : PH) (y : Int32 × PH), lp_f (fun s => lb_X0_measure_13 x3 s.1 s.2) n9 (x4, h) = some y → ∀ (hk : Go l0_B C 0 0 57 [(0, .ref 23), (1, .ref 10), (2, .ref 17), (3, .int x3)] [] y.2), Go l0_B C 0 0 13 [(0, .ref 23), (1, .ref 10), (2, .ref 17), (3, .int x3), (4, .int x4)] [] h := by
  have hn0 : ∀ w ∈ wsX00, w ∈ wsX0_measure := (fun _ hw => (List.mem_cons_of_mem _ (List.mem_append_left _ (List.mem_append_right _ hw))))
  have hn6 : ∀ w ∈ wsX60, w ∈ wsX0_measure := (fun _ hw => (List.mem_cons_of_mem _ (List.mem_append_left _ (List.mem_append_left _ (List.mem_append_right _ hw)))))
  intro n9
  induction n9 with
  | zero =>
    intro x4 h y hlp
    cases hlp
  | succ n9 ih =>
    intro x4 h y hlp hk
    obtain ⟨k9, z, hk9, hf, hy⟩ := lp_e hlp
    cases hk9
    replace hf : lb_X0_measure_13 x3 x4 h = some z := hf
    unfold lb_X0_measure_13 at hf
    refine go_iload hC dX0_measure_13 4 rfl ?_
    refine go_aload_n hC dX0_measure_15 rfl 2 rfl ?_
    refine go_geti hC (j := 0) (idx := 21) (nm := "count") (ds := "I") (b_17 _) rfl rfl hn6 (Nat.le_of_ble_eq_true rfl) rfl rfl (List.mem_cons_of_mem _ (List.mem_append_left _ (List.mem_append_left _ (List.mem_append_left _ (List.mem_of_getElem? (i := 0) rfl))))) (Or.inl rfl) dX0_measure_16 ?_
    refine go_icmp_ge hC dX0_measure_19 (tgt := 57) (by decide) (fun c_14 => ?_) (fun c_14 => ?_)
    · replace hf := if_t c_14 hf
      obtain rfl := so_1 hf
      obtain rfl := lp_x hy
      refine go_sub [0, 1, 2, 3] rfl ?_
      exact hk
    · replace hf := if_f c_14 hf
      refine go_aload_n hC dX0_measure_22 rfl 0 rfl ?_
      refine go_getr hC (j := 0) (idx := 9) (nm := "gaps") (ds := "[I") (b_23 _) rfl rfl hn0 (Nat.le_of_ble_eq_true rfl) rfl rfl (List.mem_cons_of_mem _ (List.mem_append_left _ (List.mem_append_left _ (List.mem_append_left _ (List.mem_of_getElem? (i := 1) rfl))))) (Or.inl rfl) dX0_measure_23 ?_
      refine go_iload_n hC dX0_measure_26 rfl 3 rfl ?_
      refine go_bipush hC dX0_measure_27 k8_8 ?_
      refine go_imul hC dX0_measure_29 ?_
      refine go_iload hC dX0_measure_30 4 rfl ?_
      refine go_iadd hC dX0_measure_32 ?_
      refine go_aload_n hC dX0_measure_33 rfl 1 rfl ?_
      refine go_aload_n hC dX0_measure_34 rfl 2 rfl ?_
      refine go_getr hC (j := 1) (idx := 27) (nm := "places") (ds := "[I") (b_17 _) rfl rfl hn6 (Nat.le_of_ble_eq_true rfl) rfl rfl (List.mem_cons_of_mem _ (List.mem_append_left _ (List.mem_append_left _ (List.mem_append_left _ (List.mem_of_getElem? (i := 2) rfl))))) (Or.inl rfl) dX0_measure_35 ?_
      refine go_iload_n hC dX0_measure_38 rfl 3 rfl ?_
      obtain ⟨g_8, hf⟩ := ga_e hf
      refine go_iald hC (b_18 _) g_8 dX0_measure_39 ?_
      refine go_aload_n hC dX0_measure_40 rfl 2 rfl ?_
      refine go_getr hC (j := 1) (idx := 27) (nm := "places") (ds := "[I") (b_17 _) rfl rfl hn6 (Nat.le_of_ble_eq_true rfl) rfl rfl (List.mem_cons_of_mem _ (List.mem_append_left _ (List.mem_append_left _ (List.mem_append_left _ (List.mem_of_getElem? (i := 2) rfl))))) (Or.inl rfl) dX0_measure_41 ?_
      refine go_iload hC dX0_measure_44 4 rfl ?_
      obtain ⟨g_9, hf⟩ := ga_e hf
      refine go_iald hC (b_18 _) g_9 dX0_measure_46 ?_
      obtain ⟨r_10, hc, hf⟩ := bd_e1 hf
      refine go_callV hC (c_X3_yardsFrom (h.1 18 x3.toNatClampNeg) (h.1 18 x4.toNatClampNeg) h r_10 hc) gX0_measure_X3_yardsFrom rfl ⟨rfl, rfl⟩ 2 e_X3_yardsFrom ⟨Nat.le_of_ble_eq_true rfl, Nat.le_of_ble_eq_true rfl⟩ (b_10 _) rfl rfl (st := [.int ((x3 * 8) + x4), .ref 24]) (st1 := [.int r_10, .int ((x3 * 8) + x4), .ref 24]) rfl rfl (Nat.le_of_ble_eq_true rfl) ⟨Nat.zero_le _, Nat.zero_le _⟩ dX0_measure_47 ?_
      obtain ⟨g_11, hf⟩ := ga_e hf
      obtain ⟨h_12, eh_12, hf⟩ := lt_e hf
      refine go_iast hC (b_24 _) g_11 dX0_measure_50 ?_
      refine go_toph eh_12 ?_
      obtain ⟨x4_13, ex4_13, hf⟩ := lt_e hf
      refine go_iinc hC dX0_measure_51 4 rfl k1_1 ex4_13 (Nat.le_of_ble_eq_true rfl) rfl ?_
      refine go_goto hC dX0_measure_54 (tgt := 13) (by decide) ?_
      obtain rfl := so_1 hf
      refine go_sub [1, 2, 3, 4, 0] rfl ?_
      exact ih x4_13 h_12 _ (lp_c hy) hk
set_option maxRecDepth 100000 in
set_option maxHeartbeats 4000000 in
theorem lw_X0_measure_2 {C : GC} (hC : Cx C cX0_measure 5 wsX0_measure RX0 none (rm_d 1))  : ∀ (n9 : Nat) (x3 : Int32) (h : PH) (y : Int32 × PH), lp_f (fun s => lb_X0_measure_2  s.1 s.2) n9 (x3, h) = some y → ∀ (hk : Go l0_B C 0 0 63 [] [] y.2), Go l0_B C 0 0 2 [(0, .ref 23), (1, .ref 10), (2, .ref 17), (3, .int x3)] [] h := by
  have hn0 : ∀ w ∈ wsX00, w ∈ wsX0_measure := (fun _ hw => (List.mem_cons_of_mem _ (List.mem_append_left _ (List.mem_append_right _ hw))))
  have hn6 : ∀ w ∈ wsX60, w ∈ wsX0_measure := (fun _ hw => (List.mem_cons_of_mem _ (List.mem_append_left _ (List.mem_append_left _ (List.mem_append_right _ hw)))))
  intro n9
  induction n9 with
  | zero =>
    intro x3 h y hlp
    cases hlp
  | succ n9 ih =>
    intro x3 h y hlp hk
    obtain ⟨k9, z, hk9, hf, hy⟩ := lp_e hlp
    cases hk9
    replace hf : lb_X0_measure_2  x3 h = some z := hf
    unfold lb_X0_measure_2 at hf
    refine go_iload_n hC dX0_measure_2 rfl 3 rfl ?_
    refine go_aload_n hC dX0_measure_3 rfl 2 rfl ?_
    refine go_geti hC (j := 0) (idx := 21) (nm := "count") (ds := "I") (b_17 _) rfl rfl hn6 (Nat.le_of_ble_eq_true rfl) rfl rfl (List.mem_cons_of_mem _ (List.mem_append_left _ (List.mem_append_left _ (List.mem_append_left _ (List.mem_of_getElem? (i := 0) rfl))))) (Or.inl rfl) dX0_measure_4 ?_
    refine go_icmp_ge hC dX0_measure_7 (tgt := 63) (by decide) (fun c_20 => ?_) (fun c_20 => ?_)
    · replace hf := if_t c_20 hf
      obtain rfl := so_1 hf
      obtain rfl := lp_x hy
      refine go_sub [] rfl ?_
      exact hk
    · replace hf := if_f c_20 hf
      refine go_iconst hC dX0_measure_10 k1_0 ?_
      refine go_istore hC dX0_measure_11 (Nat.le_of_ble_eq_true rfl) rfl ?_
      obtain ⟨s_18, hl, hf⟩ := bd_e1 hf
      refine go_sub [1, 2, 3, 4, 0] rfl ?_
      refine lw_X0_measure_13 hC x3 _ 0 h s_18 hl ?_
      obtain ⟨x3_19, ex3_19, hf⟩ := lt_e hf
      refine go_iinc hC dX0_measure_57 3 rfl k1_1 ex3_19 (Nat.le_of_ble_eq_true rfl) rfl ?_
      refine go_goto hC dX0_measure_60 (tgt := 2) (by decide) ?_
      obtain rfl := so_1 hf
      refine go_sub [1, 2, 3, 0] rfl ?_
      exact ih x3_19 s_18.2 _ (lp_c hy) hk
theorem e_X0_measure : yX0_measure.cls = RX0 ∧ yX0_measure.cls ≠ "java/lang/invoke/MethodHandle" ∧ yX0_measure.cls ≠ "java/lang/invoke/VarHandle" ∧ (parseMethodDescriptor yX0_measure.desc).map (fun d => d.parameters.length) = some 2 := by decide +kernel
set_option maxRecDepth 100000 in
set_option maxHeartbeats 4000000 in
theorem c_X0_measure (h : PH) (h2 : PH) (hf : f_X0_measure h = some ((), h2)) : Con yX0_measure wsX0_measure (rm_d 1) l0_B [.ref 23, .ref 10, .ref 17] h none h2 := by
  have hn0 : ∀ w ∈ wsX00, w ∈ wsX0_measure := (fun _ hw => (List.mem_cons_of_mem _ (List.mem_append_left _ (List.mem_append_right _ hw))))
  have hn6 : ∀ w ∈ wsX60, w ∈ wsX0_measure := (fun _ hw => (List.mem_cons_of_mem _ (List.mem_append_left _ (List.mem_append_left _ (List.mem_append_right _ hw)))))
  refine con_v (cc := cX0_measure) (nL := 5) (by decide) rfl (Nat.le_of_ble_eq_true rfl) ?_
  intro C hC hret
  change Go l0_B C 0 0 0 [(0, .ref 23), (1, .ref 10), (2, .ref 17)] [] h
  unfold f_X0_measure at hf
  refine go_iconst hC dX0_measure_0 k1_0 ?_
  refine go_istore_n hC dX0_measure_1 rfl (Nat.le_of_ble_eq_true rfl) rfl ?_
  obtain ⟨s_21, hl, hf⟩ := bd_e1 hf
  refine go_sub [1, 2, 3, 0] rfl ?_
  refine lw_X0_measure_2 hC  _ 0 h s_21 hl ?_
  obtain ⟨-, rfl⟩ := so_2 hf
  exact hret _ _ dX0_measure_63
def lb_X0_startFrom_3 (x3 : Int32) (x4 : Int32) (h : PH) : Option ((Int32 × PH) ⊕ (Int32 × PH)) :=
  if (h.1 17 0) ≤ x4 then (
  some (.inr (x4, h)))
  else (
  ga_i x4 8 (
  bd_1 (f_X3_yardsFrom x3 (h.1 18 x4.toNatClampNeg) h) fun r_8 =>
  ga_i x4 8 (
  lt_b (ph_i h 25 x4.toNatClampNeg r_8) fun h_10 =>
  lt_b (x4 + 1) fun x4_11 =>
  some (.inl (x4_11, h_10)))))
def f_X0_startFrom (x3 : Int32) (h : PH) : Option (Unit × PH) :=
  bd_1 (lp_f (fun s => lb_X0_startFrom_3 x3 s.1 s.2) fu_l (0, h)) fun s_13 =>
  some ((), s_13.2)
set_option maxRecDepth 100000 in
set_option maxHeartbeats 4000000 in
theorem lw_X0_startFrom_3 {C : GC} (hC : Cx C cX0_startFrom 5 wsX0_startFrom RX0 none (rm_d 1)) (x3 : Int32) : ∀ (n9 : Nat) (x4 : Int32) (h : PH) (y : Int32 × PH), lp_f (fun s => lb_X0_startFrom_3 x3 s.1 s.2) n9 (x4, h) = some y → ∀ (hk : Go l0_B C 0 0 37 [] [] y.2), Go l0_B C 0 0 3 [(0, .ref 23), (1, .ref 10), (2, .ref 17), (3, .int x3), (4, .int x4)] [] h := by
  have hn0 : ∀ w ∈ wsX00, w ∈ wsX0_startFrom := (fun _ hw => (List.mem_cons_of_mem _ (List.mem_append_left _ (List.mem_append_right _ hw))))
  have hn6 : ∀ w ∈ wsX60, w ∈ wsX0_startFrom := (fun _ hw => (List.mem_cons_of_mem _ (List.mem_append_left _ (List.mem_append_left _ (List.mem_append_right _ hw)))))
  intro n9
  induction n9 with
  | zero =>
    intro x4 h y hlp
    cases hlp
  | succ n9 ih =>
    intro x4 h y hlp hk
    obtain ⟨k9, z, hk9, hf, hy⟩ := lp_e hlp
    cases hk9
    replace hf : lb_X0_startFrom_3 x3 x4 h = some z := hf
    unfold lb_X0_startFrom_3 at hf
    refine go_iload hC dX0_startFrom_3 4 rfl ?_
    refine go_aload_n hC dX0_startFrom_5 rfl 2 rfl ?_
    refine go_geti hC (j := 0) (idx := 21) (nm := "count") (ds := "I") (b_17 _) rfl rfl hn6 (Nat.le_of_ble_eq_true rfl) rfl rfl (List.mem_cons_of_mem _ (List.mem_append_left _ (List.mem_append_left _ (List.mem_append_left _ (List.mem_of_getElem? (i := 0) rfl))))) (Or.inl rfl) dX0_startFrom_6 ?_
    refine go_icmp_ge hC dX0_startFrom_9 (tgt := 37) (by decide) (fun c_12 => ?_) (fun c_12 => ?_)
    · replace hf := if_t c_12 hf
      obtain rfl := so_1 hf
      obtain rfl := lp_x hy
      refine go_sub [] rfl ?_
      exact hk
    · replace hf := if_f c_12 hf
      refine go_aload_n hC dX0_startFrom_12 rfl 0 rfl ?_
      refine go_getr hC (j := 1) (idx := 15) (nm := "starts") (ds := "[I") (b_23 _) rfl rfl hn0 (Nat.le_of_ble_eq_true rfl) rfl rfl (List.mem_cons_of_mem _ (List.mem_append_left _ (List.mem_append_left _ (List.mem_append_left _ (List.mem_of_getElem? (i := 1) rfl))))) (Or.inl rfl) dX0_startFrom_13 ?_
      refine go_iload hC dX0_startFrom_16 4 rfl ?_
      refine go_aload_n hC dX0_startFrom_18 rfl 1 rfl ?_
      refine go_iload_n hC dX0_startFrom_19 rfl 3 rfl ?_
      refine go_aload_n hC dX0_startFrom_20 rfl 2 rfl ?_
      refine go_getr hC (j := 1) (idx := 27) (nm := "places") (ds := "[I") (b_17 _) rfl rfl hn6 (Nat.le_of_ble_eq_true rfl) rfl rfl (List.mem_cons_of_mem _ (List.mem_append_left _ (List.mem_append_left _ (List.mem_append_left _ (List.mem_of_getElem? (i := 2) rfl))))) (Or.inl rfl) dX0_startFrom_21 ?_
      refine go_iload hC dX0_startFrom_24 4 rfl ?_
      obtain ⟨g_7, hf⟩ := ga_e hf
      refine go_iald hC (b_18 _) g_7 dX0_startFrom_26 ?_
      obtain ⟨r_8, hc, hf⟩ := bd_e1 hf
      refine go_callV hC (c_X3_yardsFrom x3 (h.1 18 x4.toNatClampNeg) h r_8 hc) gX0_startFrom_X3_yardsFrom rfl ⟨rfl, rfl⟩ 2 e_X3_yardsFrom ⟨Nat.le_of_ble_eq_true rfl, Nat.le_of_ble_eq_true rfl⟩ (b_10 _) rfl rfl (st := [.int x4, .ref 25]) (st1 := [.int r_8, .int x4, .ref 25]) rfl rfl (Nat.le_of_ble_eq_true rfl) ⟨Nat.zero_le _, Nat.zero_le _⟩ dX0_startFrom_27 ?_
      obtain ⟨g_9, hf⟩ := ga_e hf
      obtain ⟨h_10, eh_10, hf⟩ := lt_e hf
      refine go_iast hC (b_25 _) g_9 dX0_startFrom_30 ?_
      refine go_toph eh_10 ?_
      obtain ⟨x4_11, ex4_11, hf⟩ := lt_e hf
      refine go_iinc hC dX0_startFrom_31 4 rfl k1_1 ex4_11 (Nat.le_of_ble_eq_true rfl) rfl ?_
      refine go_goto hC dX0_startFrom_34 (tgt := 3) (by decide) ?_
      obtain rfl := so_1 hf
      refine go_sub [1, 2, 3, 4, 0] rfl ?_
      exact ih x4_11 h_10 _ (lp_c hy) hk
theorem e_X0_startFrom : yX0_startFrom.cls = RX0 ∧ yX0_startFrom.cls ≠ "java/lang/invoke/MethodHandle" ∧ yX0_startFrom.cls ≠ "java/lang/invoke/VarHandle" ∧ (parseMethodDescriptor yX0_startFrom.desc).map (fun d => d.parameters.length) = some 3 := by decide +kernel
set_option maxRecDepth 100000 in
set_option maxHeartbeats 4000000 in
theorem c_X0_startFrom (x3 : Int32) (h : PH) (h2 : PH) (hf : f_X0_startFrom x3 h = some ((), h2)) : Con yX0_startFrom wsX0_startFrom (rm_d 1) l0_B [.ref 23, .ref 10, .ref 17, .int x3] h none h2 := by
  have hn0 : ∀ w ∈ wsX00, w ∈ wsX0_startFrom := (fun _ hw => (List.mem_cons_of_mem _ (List.mem_append_left _ (List.mem_append_right _ hw))))
  have hn6 : ∀ w ∈ wsX60, w ∈ wsX0_startFrom := (fun _ hw => (List.mem_cons_of_mem _ (List.mem_append_left _ (List.mem_append_left _ (List.mem_append_right _ hw)))))
  refine con_v (cc := cX0_startFrom) (nL := 5) (by decide) rfl (Nat.le_of_ble_eq_true rfl) ?_
  intro C hC hret
  change Go l0_B C 0 0 0 [(0, .ref 23), (1, .ref 10), (2, .ref 17), (3, .int x3)] [] h
  unfold f_X0_startFrom at hf
  refine go_iconst hC dX0_startFrom_0 k1_0 ?_
  refine go_istore hC dX0_startFrom_1 (Nat.le_of_ble_eq_true rfl) rfl ?_
  obtain ⟨s_13, hl, hf⟩ := bd_e1 hf
  refine go_sub [1, 2, 3, 4, 0] rfl ?_
  refine lw_X0_startFrom_3 hC x3 _ 0 h s_13 hl ?_
  obtain ⟨-, rfl⟩ := so_2 hf
  exact hret _ _ dX0_startFrom_37
def f_X0_homeFrom (x1 : Int32) (x2 : Int32) (h : PH) : Option (Int32) :=
  if x2 = 0 then (
  some 0)
  else (
  ga_i x1 8 (
  some (h.1 25 x1.toNatClampNeg)))
theorem e_X0_homeFrom : yX0_homeFrom.cls = RX0 ∧ yX0_homeFrom.cls ≠ "java/lang/invoke/MethodHandle" ∧ yX0_homeFrom.cls ≠ "java/lang/invoke/VarHandle" ∧ (parseMethodDescriptor yX0_homeFrom.desc).map (fun d => d.parameters.length) = some 2 := by decide +kernel
set_option maxRecDepth 100000 in
set_option maxHeartbeats 4000000 in
theorem c_X0_homeFrom (x1 : Int32) (x2 : Int32) (h : PH) (r : Int32) (hf : f_X0_homeFrom x1 x2 h = some r) : Con yX0_homeFrom wsX0_homeFrom (rm_d 0) l0_B [.ref 23, .int x1, .int x2] h (some (.int r)) h := by
  have hn0 : ∀ w ∈ wsX00, w ∈ wsX0_homeFrom := (fun _ hw => (List.mem_cons_of_mem _ (List.mem_append_right _ hw)))
  refine con_i (ty := .int) (cc := cX0_homeFrom) (nL := 3) (by decide) rfl (Nat.le_of_ble_eq_true rfl) ?_
  intro C hC hret
  change Go l0_B C 0 0 0 [(0, .ref 23), (1, .int x1), (2, .int x2)] [] h
  unfold f_X0_homeFrom at hf
  refine go_iload_n hC dX0_homeFrom_0 rfl 2 rfl ?_
  refine go_if_eq hC dX0_homeFrom_1 (tgt := 13) (by decide) (fun c_2 => ?_) (fun c_2 => ?_)
  · replace hf := if_t c_2 hf
    refine go_iconst hC dX0_homeFrom_13 k1_0 ?_
    obtain rfl := so_1 hf
    exact hret _ _ rfl dX0_homeFrom_14
  · replace hf := if_f c_2 hf
    refine go_aload_n hC dX0_homeFrom_4 rfl 0 rfl ?_
    refine go_getr hC (j := 1) (idx := 15) (nm := "starts") (ds := "[I") (b_23 _) rfl rfl hn0 (Nat.le_of_ble_eq_true rfl) rfl rfl (List.mem_cons_of_mem _ (List.mem_append_left _ (List.mem_of_getElem? (i := 0) rfl))) (Or.inl rfl) dX0_homeFrom_5 ?_
    refine go_iload_n hC dX0_homeFrom_8 rfl 1 rfl ?_
    obtain ⟨g_1, hf⟩ := ga_e hf
    refine go_iald hC (b_25 _) g_1 dX0_homeFrom_9 ?_
    refine go_goto hC dX0_homeFrom_10 (tgt := 14) (by decide) ?_
    obtain rfl := so_1 hf
    exact hret _ _ rfl dX0_homeFrom_14
def f_X0_over (x1 : Int32) (x2 : Int32) (x3 : Int32) (h : PH) : Option (Int32) :=
  if x1 = (-1) then (
  ga_i x2 8 (
  lt_b (h.1 25 x2.toNatClampNeg) fun x4_5 =>
  ga_i (((x3 &&& (((1 : Int32) <<< (x2 &&& 31)) ^^^ (-1))) * 8) + x2) 2048 (
  some (x4_5 + (h.1 26 (((x3 &&& (((1 : Int32) <<< (x2 &&& 31)) ^^^ (-1))) * 8) + x2).toNatClampNeg)))))
  else (
  ga_i ((x1 * 8) + x2) 64 (
  lt_b (h.1 24 ((x1 * 8) + x2).toNatClampNeg) fun x4_2 =>
  ga_i (((x3 &&& (((1 : Int32) <<< (x2 &&& 31)) ^^^ (-1))) * 8) + x2) 2048 (
  some (x4_2 + (h.1 26 (((x3 &&& (((1 : Int32) <<< (x2 &&& 31)) ^^^ (-1))) * 8) + x2).toNatClampNeg)))))
theorem e_X0_over : yX0_over.cls = RX0 ∧ yX0_over.cls ≠ "java/lang/invoke/MethodHandle" ∧ yX0_over.cls ≠ "java/lang/invoke/VarHandle" ∧ (parseMethodDescriptor yX0_over.desc).map (fun d => d.parameters.length) = some 3 := by decide +kernel
set_option maxRecDepth 100000 in
set_option maxHeartbeats 4000000 in
theorem c_X0_over (x1 : Int32) (x2 : Int32) (x3 : Int32) (h : PH) (r : Int32) (hf : f_X0_over x1 x2 x3 h = some r) : Con yX0_over wsX0_over (rm_d 0) l0_B [.ref 23, .int x1, .int x2, .int x3] h (some (.int r)) h := by
  have hn0 : ∀ w ∈ wsX00, w ∈ wsX0_over := (fun _ hw => (List.mem_cons_of_mem _ (List.mem_append_right _ hw)))
  refine con_i (ty := .int) (cc := cX0_over) (nL := 5) (by decide) rfl (Nat.le_of_ble_eq_true rfl) ?_
  intro C hC hret
  change Go l0_B C 0 0 0 [(0, .ref 23), (1, .int x1), (2, .int x2), (3, .int x3)] [] h
  unfold f_X0_over at hf
  refine go_iload_n hC dX0_over_0 rfl 1 rfl ?_
  refine go_iconst hC dX0_over_1 k1_m1 ?_
  refine go_icmp_ne hC dX0_over_2 (tgt := 14) (by decide) (fun c_7 => ?_) (fun c_7 => ?_)
  · replace hf := if_f c_7 hf
    refine go_aload_n hC dX0_over_14 rfl 0 rfl ?_
    refine go_getr hC (j := 0) (idx := 9) (nm := "gaps") (ds := "[I") (b_23 _) rfl rfl hn0 (Nat.le_of_ble_eq_true rfl) rfl rfl (List.mem_cons_of_mem _ (List.mem_append_left _ (List.mem_of_getElem? (i := 1) rfl))) (Or.inl rfl) dX0_over_15 ?_
    refine go_iload_n hC dX0_over_18 rfl 1 rfl ?_
    refine go_bipush hC dX0_over_19 k8_8 ?_
    refine go_imul hC dX0_over_21 ?_
    refine go_iload_n hC dX0_over_22 rfl 2 rfl ?_
    refine go_iadd hC dX0_over_23 ?_
    obtain ⟨g_1, hf⟩ := ga_e hf
    refine go_iald hC (b_24 _) g_1 dX0_over_24 ?_
    obtain ⟨x4_2, ex4_2, hf⟩ := lt_e hf
    refine go_topi ex4_2 ?_
    refine go_istore hC dX0_over_25 (Nat.le_of_ble_eq_true rfl) rfl ?_
    refine go_iload hC dX0_over_27 0 rfl ?_
    refine go_aload_n hC dX0_over_29 rfl 1 rfl ?_
    refine go_getr hC (j := 2) (idx := 18) (nm := "rests") (ds := "[I") (b_23 _) rfl rfl hn0 (Nat.le_of_ble_eq_true rfl) rfl rfl (List.mem_cons_of_mem _ (List.mem_append_left _ (List.mem_of_getElem? (i := 2) rfl))) (Or.inl rfl) dX0_over_30 ?_
    refine go_iload_n hC dX0_over_33 rfl 4 rfl ?_
    refine go_iconst hC dX0_over_34 k1_1 ?_
    refine go_iload_n hC dX0_over_35 rfl 3 rfl ?_
    refine go_ishl hC dX0_over_36 ?_
    refine go_iconst hC dX0_over_37 k1_m1 ?_
    refine go_ixor hC dX0_over_38 ?_
    refine go_iand hC dX0_over_39 ?_
    refine go_bipush hC dX0_over_40 k8_8 ?_
    refine go_imul hC dX0_over_42 ?_
    refine go_iload_n hC dX0_over_43 rfl 3 rfl ?_
    refine go_iadd hC dX0_over_44 ?_
    obtain ⟨g_3, hf⟩ := ga_e hf
    refine go_iald hC (b_26 _) g_3 dX0_over_45 ?_
    refine go_iadd hC dX0_over_46 ?_
    obtain rfl := so_1 hf
    exact hret _ _ rfl dX0_over_47
  · replace hf := if_t c_7 hf
    refine go_aload_n hC dX0_over_5 rfl 0 rfl ?_
    refine go_getr hC (j := 1) (idx := 15) (nm := "starts") (ds := "[I") (b_23 _) rfl rfl hn0 (Nat.le_of_ble_eq_true rfl) rfl rfl (List.mem_cons_of_mem _ (List.mem_append_left _ (List.mem_of_getElem? (i := 0) rfl))) (Or.inl rfl) dX0_over_6 ?_
    refine go_iload_n hC dX0_over_9 rfl 2 rfl ?_
    obtain ⟨g_4, hf⟩ := ga_e hf
    refine go_iald hC (b_25 _) g_4 dX0_over_10 ?_
    refine go_goto hC dX0_over_11 (tgt := 25) (by decide) ?_
    obtain ⟨x4_5, ex4_5, hf⟩ := lt_e hf
    refine go_topi ex4_5 ?_
    refine go_istore hC dX0_over_25 (Nat.le_of_ble_eq_true rfl) rfl ?_
    refine go_iload hC dX0_over_27 0 rfl ?_
    refine go_aload_n hC dX0_over_29 rfl 1 rfl ?_
    refine go_getr hC (j := 2) (idx := 18) (nm := "rests") (ds := "[I") (b_23 _) rfl rfl hn0 (Nat.le_of_ble_eq_true rfl) rfl rfl (List.mem_cons_of_mem _ (List.mem_append_left _ (List.mem_of_getElem? (i := 2) rfl))) (Or.inl rfl) dX0_over_30 ?_
    refine go_iload_n hC dX0_over_33 rfl 4 rfl ?_
    refine go_iconst hC dX0_over_34 k1_1 ?_
    refine go_iload_n hC dX0_over_35 rfl 3 rfl ?_
    refine go_ishl hC dX0_over_36 ?_
    refine go_iconst hC dX0_over_37 k1_m1 ?_
    refine go_ixor hC dX0_over_38 ?_
    refine go_iand hC dX0_over_39 ?_
    refine go_bipush hC dX0_over_40 k8_8 ?_
    refine go_imul hC dX0_over_42 ?_
    refine go_iload_n hC dX0_over_43 rfl 3 rfl ?_
    refine go_iadd hC dX0_over_44 ?_
    obtain ⟨g_6, hf⟩ := ga_e hf
    refine go_iald hC (b_26 _) g_6 dX0_over_45 ?_
    refine go_iadd hC dX0_over_46 ?_
    obtain rfl := so_1 hf
    exact hret _ _ rfl dX0_over_47
def lb_X0_leastFrom_6 (x1 : Int32) (x2 : Int32) (h : PH) (x3 : Int32) (x4 : Int32) : Option ((Int32 × Int32) ⊕ (Int32 × Int32)) :=
  if 8 ≤ x4 then (
  some (.inr (x3, x4)))
  else (
  if ((x2 >>> (x4 &&& 31)) &&& 1) = 0 then (
  lt_b (x4 + 1) fun x4_7 =>
  some (.inl (x3, x4_7)))
  else (
  bd_1 (f_X0_over x1 x4 x2 h) fun r_8 =>
  lt_b (if r_8 < x3 then r_8 else x3) fun x3_9 =>
  lt_b (x4 + 1) fun x4_10 =>
  some (.inl (x3_9, x4_10))))
def f_X0_leastFrom (x1 : Int32) (x2 : Int32) (h : PH) : Option (Int32) :=
  bd_1 (lp_f (fun s => lb_X0_leastFrom_6 x1 x2 h s.1 s.2) fu_l (1000000, 0)) fun s_13 =>
  some s_13.1
set_option maxRecDepth 100000 in
set_option maxHeartbeats 4000000 in
theorem lw_X0_leastFrom_6 {C : GC} (hC : Cx C cX0_leastFrom 5 wsX0_leastFrom RX0 (some .int) (rm_d 1)) (x1 : Int32) (x2 : Int32) (h : PH) : ∀ (n9 : Nat) (x3 : Int32) (x4 : Int32) (y : Int32 × Int32), lp_f (fun s => lb_X0_leastFrom_6 x1 x2 h s.1 s.2) n9 (x3, x4) = some y → ∀ (hk : Go l0_B C 0 0 41 [(3, .int y.1)] [] h), Go l0_B C 0 0 6 [(0, .ref 23), (1, .int x1), (2, .int x2), (3, .int x3), (4, .int x4)] [] h := by

  intro n9
  induction n9 with
  | zero =>
    intro x3 x4 y hlp
    cases hlp
  | succ n9 ih =>
    intro x3 x4 y hlp hk
    obtain ⟨k9, z, hk9, hf, hy⟩ := lp_e hlp
    cases hk9
    replace hf : lb_X0_leastFrom_6 x1 x2 h x3 x4 = some z := hf
    unfold lb_X0_leastFrom_6 at hf
    refine go_iload hC dX0_leastFrom_6 4 rfl ?_
    refine go_bipush hC dX0_leastFrom_8 k8_8 ?_
    refine go_icmp_ge hC dX0_leastFrom_10 (tgt := 41) (by decide) (fun c_12 => ?_) (fun c_12 => ?_)
    · replace hf := if_t c_12 hf
      obtain rfl := so_1 hf
      obtain rfl := lp_x hy
      refine go_sub [3] rfl ?_
      exact hk
    · replace hf := if_f c_12 hf
      refine go_iload_n hC dX0_leastFrom_13 rfl 2 rfl ?_
      refine go_iload hC dX0_leastFrom_14 4 rfl ?_
      refine go_ishr hC dX0_leastFrom_16 ?_
      refine go_iconst hC dX0_leastFrom_17 k1_1 ?_
      refine go_iand hC dX0_leastFrom_18 ?_
      refine go_if_eq hC dX0_leastFrom_19 (tgt := 35) (by decide) (fun c_11 => ?_) (fun c_11 => ?_)
      · replace hf := if_t c_11 hf
        obtain ⟨x4_7, ex4_7, hf⟩ := lt_e hf
        refine go_iinc hC dX0_leastFrom_35 4 rfl k1_1 ex4_7 (Nat.le_of_ble_eq_true rfl) rfl ?_
        refine go_goto hC dX0_leastFrom_38 (tgt := 6) (by decide) ?_
        obtain rfl := so_1 hf
        refine go_sub [1, 2, 3, 4, 0] rfl ?_
        exact ih x3 x4_7 _ (lp_c hy) hk
      · replace hf := if_f c_11 hf
        refine go_iload_n hC dX0_leastFrom_22 rfl 3 rfl ?_
        refine go_aload_n hC dX0_leastFrom_23 rfl 0 rfl ?_
        refine go_iload_n hC dX0_leastFrom_24 rfl 1 rfl ?_
        refine go_iload hC dX0_leastFrom_25 4 rfl ?_
        refine go_iload_n hC dX0_leastFrom_27 rfl 2 rfl ?_
        obtain ⟨r_8, hc, hf⟩ := bd_e1 hf
        refine go_callV hC (c_X0_over x1 x4 x2 h r_8 hc) gX0_leastFrom_X0_over rfl ⟨rfl, rfl⟩ 3 e_X0_over ⟨Nat.le_of_ble_eq_true rfl, Nat.le_of_ble_eq_true rfl⟩ (b_23 _) rfl rfl (st := [.int x3]) (st1 := [.int r_8, .int x3]) rfl rfl (Nat.le_of_ble_eq_true rfl) ⟨Nat.zero_le _, Nat.zero_le _⟩ dX0_leastFrom_28 ?_
        refine go_min hC (List.mem_cons_of_mem _ (List.mem_append_left _ (List.mem_of_getElem? (i := 1) rfl))) (List.mem_cons_of_mem _ (List.mem_append_left _ (List.mem_of_getElem? (i := 2) rfl))) (List.mem_cons_of_mem _ (List.mem_append_left _ (List.mem_of_getElem? (i := 3) rfl))) (List.mem_cons_of_mem _ (List.mem_append_left _ (List.mem_of_getElem? (i := 4) rfl))) ⟨Nat.le_of_ble_eq_true rfl, Nat.le_of_ble_eq_true rfl⟩ ⟨Nat.zero_le _, Nat.zero_le _⟩ dX0_leastFrom_31 ?_
        obtain ⟨x3_9, ex3_9, hf⟩ := lt_e hf
        refine go_topi ex3_9 ?_
        refine go_istore_n hC dX0_leastFrom_34 rfl (Nat.le_of_ble_eq_true rfl) rfl ?_
        obtain ⟨x4_10, ex4_10, hf⟩ := lt_e hf
        refine go_iinc hC dX0_leastFrom_35 4 rfl k1_1 ex4_10 (Nat.le_of_ble_eq_true rfl) rfl ?_
        refine go_goto hC dX0_leastFrom_38 (tgt := 6) (by decide) ?_
        obtain rfl := so_1 hf
        refine go_sub [2, 3, 4, 1, 0] rfl ?_
        exact ih x3_9 x4_10 _ (lp_c hy) hk
theorem e_X0_leastFrom : yX0_leastFrom.cls = RX0 ∧ yX0_leastFrom.cls ≠ "java/lang/invoke/MethodHandle" ∧ yX0_leastFrom.cls ≠ "java/lang/invoke/VarHandle" ∧ (parseMethodDescriptor yX0_leastFrom.desc).map (fun d => d.parameters.length) = some 2 := by decide +kernel
set_option maxRecDepth 100000 in
set_option maxHeartbeats 4000000 in
theorem c_X0_leastFrom (x1 : Int32) (x2 : Int32) (h : PH) (r : Int32) (hf : f_X0_leastFrom x1 x2 h = some r) : Con yX0_leastFrom wsX0_leastFrom (rm_d 1) l0_B [.ref 23, .int x1, .int x2] h (some (.int r)) h := by

  refine con_i (ty := .int) (cc := cX0_leastFrom) (nL := 5) (by decide) rfl (Nat.le_of_ble_eq_true rfl) ?_
  intro C hC hret
  change Go l0_B C 0 0 0 [(0, .ref 23), (1, .int x1), (2, .int x2)] [] h
  unfold f_X0_leastFrom at hf
  refine go_ldc hC (v := 1000000) (List.mem_cons_of_mem _ (List.mem_append_left _ (List.mem_of_getElem? (i := 0) rfl))) dX0_leastFrom_0 ?_
  refine go_istore_n hC dX0_leastFrom_2 rfl (Nat.le_of_ble_eq_true rfl) rfl ?_
  refine go_iconst hC dX0_leastFrom_3 k1_0 ?_
  refine go_istore hC dX0_leastFrom_4 (Nat.le_of_ble_eq_true rfl) rfl ?_
  obtain ⟨s_13, hl, hf⟩ := bd_e1 hf
  refine go_sub [2, 3, 4, 1, 0] rfl ?_
  refine lw_X0_leastFrom_6 hC x1 x2 h _ 1000000 0 s_13 hl ?_
  refine go_iload_n hC dX0_leastFrom_41 rfl 0 rfl ?_
  obtain rfl := so_1 hf
  exact hret _ _ rfl dX0_leastFrom_42
def lb_X0_reckonRestsOf_3 (x1 : Int32) (x2 : Int32) (x3 : Int32) (x4 : Int32) (h : PH) : Option ((Int32 × PH) ⊕ (Int32 × PH)) :=
  if 8 ≤ x4 then (
  some (.inr (x4, h)))
  else (
  if ((x2 >>> (x4 &&& 31)) &&& 1) = 0 then (
  lt_b (x4 + 1) fun x4_13 =>
  some (.inl (x4_13, h)))
  else (
  if x1 = 0 then (
  bd_1 (f_X0_homeFrom x4 x3 h) fun r_18 =>
  ga_i ((x1 * 8) + x4) 2048 (
  lt_b (ph_i h 26 ((x1 * 8) + x4).toNatClampNeg r_18) fun h_20 =>
  lt_b (x4 + 1) fun x4_21 =>
  some (.inl (x4_21, h_20))))
  else (
  bd_1 (f_X0_leastFrom x4 x1 h) fun r_14 =>
  ga_i ((x1 * 8) + x4) 2048 (
  lt_b (ph_i h 26 ((x1 * 8) + x4).toNatClampNeg r_14) fun h_16 =>
  lt_b (x4 + 1) fun x4_17 =>
  some (.inl (x4_17, h_16))))))
def f_X0_reckonRestsOf (x1 : Int32) (x2 : Int32) (x3 : Int32) (h : PH) : Option (Unit × PH) :=
  bd_1 (lp_f (fun s => lb_X0_reckonRestsOf_3 x1 x2 x3 s.1 s.2) fu_l (0, h)) fun s_25 =>
  some ((), s_25.2)
set_option maxRecDepth 100000 in
set_option maxHeartbeats 4000000 in
theorem lw_X0_reckonRestsOf_3 {C : GC} (hC : Cx C cX0_reckonRestsOf 5 wsX0_reckonRestsOf RX0 none (rm_d 2)) (x1 : Int32) (x2 : Int32) (x3 : Int32) : ∀ (n9 : Nat) (x4 : Int32) (h : PH) (y : Int32 × PH), lp_f (fun s => lb_X0_reckonRestsOf_3 x1 x2 x3 s.1 s.2) n9 (x4, h) = some y → ∀ (hk : Go l0_B C 0 0 58 [] [] y.2), Go l0_B C 0 0 3 [(0, .ref 23), (1, .int x1), (2, .int x2), (3, .int x3), (4, .int x4)] [] h := by
  have hn0 : ∀ w ∈ wsX00, w ∈ wsX0_reckonRestsOf := (fun _ hw => (List.mem_cons_of_mem _ (List.mem_append_right _ hw)))
  intro n9
  induction n9 with
  | zero =>
    intro x4 h y hlp
    cases hlp
  | succ n9 ih =>
    intro x4 h y hlp hk
    obtain ⟨k9, z, hk9, hf, hy⟩ := lp_e hlp
    cases hk9
    replace hf : lb_X0_reckonRestsOf_3 x1 x2 x3 x4 h = some z := hf
    unfold lb_X0_reckonRestsOf_3 at hf
    refine go_iload hC dX0_reckonRestsOf_3 4 rfl ?_
    refine go_bipush hC dX0_reckonRestsOf_5 k8_8 ?_
    refine go_icmp_ge hC dX0_reckonRestsOf_7 (tgt := 58) (by decide) (fun c_24 => ?_) (fun c_24 => ?_)
    · replace hf := if_t c_24 hf
      obtain rfl := so_1 hf
      obtain rfl := lp_x hy
      refine go_sub [] rfl ?_
      exact hk
    · replace hf := if_f c_24 hf
      refine go_iload_n hC dX0_reckonRestsOf_10 rfl 2 rfl ?_
      refine go_iload hC dX0_reckonRestsOf_11 4 rfl ?_
      refine go_ishr hC dX0_reckonRestsOf_13 ?_
      refine go_iconst hC dX0_reckonRestsOf_14 k1_1 ?_
      refine go_iand hC dX0_reckonRestsOf_15 ?_
      refine go_if_eq hC dX0_reckonRestsOf_16 (tgt := 52) (by decide) (fun c_23 => ?_) (fun c_23 => ?_)
      · replace hf := if_t c_23 hf
        obtain ⟨x4_13, ex4_13, hf⟩ := lt_e hf
        refine go_iinc hC dX0_reckonRestsOf_52 4 rfl k1_1 ex4_13 (Nat.le_of_ble_eq_true rfl) rfl ?_
        refine go_goto hC dX0_reckonRestsOf_55 (tgt := 3) (by decide) ?_
        obtain rfl := so_1 hf
        refine go_sub [1, 2, 3, 4, 0] rfl ?_
        exact ih x4_13 h _ (lp_c hy) hk
      · replace hf := if_f c_23 hf
        refine go_aload_n hC dX0_reckonRestsOf_19 rfl 0 rfl ?_
        refine go_getr hC (j := 2) (idx := 18) (nm := "rests") (ds := "[I") (b_23 _) rfl rfl hn0 (Nat.le_of_ble_eq_true rfl) rfl rfl (List.mem_cons_of_mem _ (List.mem_append_left _ (List.mem_of_getElem? (i := 0) rfl))) (Or.inl rfl) dX0_reckonRestsOf_20 ?_
        refine go_iload_n hC dX0_reckonRestsOf_23 rfl 1 rfl ?_
        refine go_bipush hC dX0_reckonRestsOf_24 k8_8 ?_
        refine go_imul hC dX0_reckonRestsOf_26 ?_
        refine go_iload hC dX0_reckonRestsOf_27 4 rfl ?_
        refine go_iadd hC dX0_reckonRestsOf_29 ?_
        refine go_iload_n hC dX0_reckonRestsOf_30 rfl 1 rfl ?_
        refine go_if_ne hC dX0_reckonRestsOf_31 (tgt := 44) (by decide) (fun c_22 => ?_) (fun c_22 => ?_)
        · replace hf := if_f c_22 hf
          refine go_aload_n hC dX0_reckonRestsOf_44 rfl 0 rfl ?_
          refine go_iload hC dX0_reckonRestsOf_45 4 rfl ?_
          refine go_iload_n hC dX0_reckonRestsOf_47 rfl 1 rfl ?_
          obtain ⟨r_14, hc, hf⟩ := bd_e1 hf
          refine go_callV hC (c_X0_leastFrom x4 x1 h r_14 hc) gX0_reckonRestsOf_X0_leastFrom rfl ⟨rfl, rfl⟩ 2 e_X0_leastFrom ⟨Nat.le_of_ble_eq_true rfl, Nat.le_of_ble_eq_true rfl⟩ (b_23 _) rfl rfl (st := [.int ((x1 * 8) + x4), .ref 26]) (st1 := [.int r_14, .int ((x1 * 8) + x4), .ref 26]) rfl rfl (Nat.le_of_ble_eq_true rfl) ⟨Nat.zero_le _, Nat.zero_le _⟩ dX0_reckonRestsOf_48 ?_
          obtain ⟨g_15, hf⟩ := ga_e hf
          obtain ⟨h_16, eh_16, hf⟩ := lt_e hf
          refine go_iast hC (b_26 _) g_15 dX0_reckonRestsOf_51 ?_
          refine go_toph eh_16 ?_
          obtain ⟨x4_17, ex4_17, hf⟩ := lt_e hf
          refine go_iinc hC dX0_reckonRestsOf_52 4 rfl k1_1 ex4_17 (Nat.le_of_ble_eq_true rfl) rfl ?_
          refine go_goto hC dX0_reckonRestsOf_55 (tgt := 3) (by decide) ?_
          obtain rfl := so_1 hf
          refine go_sub [1, 2, 3, 4, 0] rfl ?_
          exact ih x4_17 h_16 _ (lp_c hy) hk
        · replace hf := if_t c_22 hf
          refine go_aload_n hC dX0_reckonRestsOf_34 rfl 0 rfl ?_
          refine go_iload hC dX0_reckonRestsOf_35 4 rfl ?_
          refine go_iload_n hC dX0_reckonRestsOf_37 rfl 3 rfl ?_
          obtain ⟨r_18, hc, hf⟩ := bd_e1 hf
          refine go_callV hC (c_X0_homeFrom x4 x3 h r_18 hc) gX0_reckonRestsOf_X0_homeFrom rfl ⟨rfl, rfl⟩ 2 e_X0_homeFrom ⟨Nat.le_of_ble_eq_true rfl, Nat.le_of_ble_eq_true rfl⟩ (b_23 _) rfl rfl (st := [.int ((x1 * 8) + x4), .ref 26]) (st1 := [.int r_18, .int ((x1 * 8) + x4), .ref 26]) rfl rfl (Nat.le_of_ble_eq_true rfl) ⟨Nat.zero_le _, Nat.zero_le _⟩ dX0_reckonRestsOf_38 ?_
          refine go_goto hC dX0_reckonRestsOf_41 (tgt := 51) (by decide) ?_
          obtain ⟨g_19, hf⟩ := ga_e hf
          obtain ⟨h_20, eh_20, hf⟩ := lt_e hf
          refine go_iast hC (b_26 _) g_19 dX0_reckonRestsOf_51 ?_
          refine go_toph eh_20 ?_
          obtain ⟨x4_21, ex4_21, hf⟩ := lt_e hf
          refine go_iinc hC dX0_reckonRestsOf_52 4 rfl k1_1 ex4_21 (Nat.le_of_ble_eq_true rfl) rfl ?_
          refine go_goto hC dX0_reckonRestsOf_55 (tgt := 3) (by decide) ?_
          obtain rfl := so_1 hf
          refine go_sub [1, 2, 3, 4, 0] rfl ?_
          exact ih x4_21 h_20 _ (lp_c hy) hk
theorem e_X0_reckonRestsOf : yX0_reckonRestsOf.cls = RX0 ∧ yX0_reckonRestsOf.cls ≠ "java/lang/invoke/MethodHandle" ∧ yX0_reckonRestsOf.cls ≠ "java/lang/invoke/VarHandle" ∧ (parseMethodDescriptor yX0_reckonRestsOf.desc).map (fun d => d.parameters.length) = some 3 := by decide +kernel
set_option maxRecDepth 100000 in
set_option maxHeartbeats 4000000 in
theorem c_X0_reckonRestsOf (x1 : Int32) (x2 : Int32) (x3 : Int32) (h : PH) (h2 : PH) (hf : f_X0_reckonRestsOf x1 x2 x3 h = some ((), h2)) : Con yX0_reckonRestsOf wsX0_reckonRestsOf (rm_d 2) l0_B [.ref 23, .int x1, .int x2, .int x3] h none h2 := by
  have hn0 : ∀ w ∈ wsX00, w ∈ wsX0_reckonRestsOf := (fun _ hw => (List.mem_cons_of_mem _ (List.mem_append_right _ hw)))
  refine con_v (cc := cX0_reckonRestsOf) (nL := 5) (by decide) rfl (Nat.le_of_ble_eq_true rfl) ?_
  intro C hC hret
  change Go l0_B C 0 0 0 [(0, .ref 23), (1, .int x1), (2, .int x2), (3, .int x3)] [] h
  unfold f_X0_reckonRestsOf at hf
  refine go_iconst hC dX0_reckonRestsOf_0 k1_0 ?_
  refine go_istore hC dX0_reckonRestsOf_1 (Nat.le_of_ble_eq_true rfl) rfl ?_
  obtain ⟨s_25, hl, hf⟩ := bd_e1 hf
  refine go_sub [1, 2, 3, 4, 0] rfl ?_
  refine lw_X0_reckonRestsOf_3 hC x1 x2 x3 _ 0 h s_25 hl ?_
  obtain ⟨-, rfl⟩ := so_2 hf
  exact hret _ _ dX0_reckonRestsOf_58
def lb_X0_reckonRests_2 (x1 : Int32) (x2 : Int32) (x3 : Int32) (h : PH) : Option ((Int32 × PH) ⊕ (Int32 × PH)) :=
  if x1 ≤ x3 then (
  some (.inr (x3, h)))
  else (
  if (x3 &&& (x1 ^^^ (-1))) = 0 then (
  bd_2 (f_X0_reckonRestsOf x3 (x1 &&& (x3 ^^^ (-1))) x2 h) fun r_8 h_9 =>
  lt_b (x3 + 1) fun x3_10 =>
  some (.inl (x3_10, h_9)))
  else (
  lt_b (x3 + 1) fun x3_7 =>
  some (.inl (x3_7, h))))
def f_X0_reckonRests (x1 : Int32) (x2 : Int32) (h : PH) : Option (Unit × PH) :=
  bd_1 (lp_f (fun s => lb_X0_reckonRests_2 x1 x2 s.1 s.2) fu_l (0, h)) fun s_13 =>
  some ((), s_13.2)
set_option maxRecDepth 100000 in
set_option maxHeartbeats 4000000 in
theorem lw_X0_reckonRests_2 {C : GC} (hC : Cx C cX0_reckonRests 4 wsX0_reckonRests RX0 none (rm_d 3)) (x1 : Int32) (x2 : Int32) : ∀ (n9 : Nat) (x3 : Int32) (h : PH) (y : Int32 × PH), lp_f (fun s => lb_X0_reckonRests_2 x1 x2 s.1 s.2) n9 (x3, h) = some y → ∀ (hk : Go l0_B C 0 0 32 [] [] y.2), Go l0_B C 0 0 2 [(0, .ref 23), (1, .int x1), (2, .int x2), (3, .int x3)] [] h := by

  intro n9
  induction n9 with
  | zero =>
    intro x3 h y hlp
    cases hlp
  | succ n9 ih =>
    intro x3 h y hlp hk
    obtain ⟨k9, z, hk9, hf, hy⟩ := lp_e hlp
    cases hk9
    replace hf : lb_X0_reckonRests_2 x1 x2 x3 h = some z := hf
    unfold lb_X0_reckonRests_2 at hf
    refine go_iload_n hC dX0_reckonRests_2 rfl 3 rfl ?_
    refine go_iload_n hC dX0_reckonRests_3 rfl 1 rfl ?_
    refine go_icmp_ge hC dX0_reckonRests_4 (tgt := 32) (by decide) (fun c_12 => ?_) (fun c_12 => ?_)
    · replace hf := if_t c_12 hf
      obtain rfl := so_1 hf
      obtain rfl := lp_x hy
      refine go_sub [] rfl ?_
      exact hk
    · replace hf := if_f c_12 hf
      refine go_iload_n hC dX0_reckonRests_7 rfl 3 rfl ?_
      refine go_iload_n hC dX0_reckonRests_8 rfl 1 rfl ?_
      refine go_iconst hC dX0_reckonRests_9 k1_m1 ?_
      refine go_ixor hC dX0_reckonRests_10 ?_
      refine go_iand hC dX0_reckonRests_11 ?_
      refine go_if_ne hC dX0_reckonRests_12 (tgt := 26) (by decide) (fun c_11 => ?_) (fun c_11 => ?_)
      · replace hf := if_f c_11 hf
        obtain ⟨x3_7, ex3_7, hf⟩ := lt_e hf
        refine go_iinc hC dX0_reckonRests_26 3 rfl k1_1 ex3_7 (Nat.le_of_ble_eq_true rfl) rfl ?_
        refine go_goto hC dX0_reckonRests_29 (tgt := 2) (by decide) ?_
        obtain rfl := so_1 hf
        refine go_sub [1, 2, 3, 0] rfl ?_
        exact ih x3_7 h _ (lp_c hy) hk
      · replace hf := if_t c_11 hf
        refine go_aload_n hC dX0_reckonRests_15 rfl 0 rfl ?_
        refine go_iload_n hC dX0_reckonRests_16 rfl 3 rfl ?_
        refine go_iload_n hC dX0_reckonRests_17 rfl 1 rfl ?_
        refine go_iload_n hC dX0_reckonRests_18 rfl 3 rfl ?_
        refine go_iconst hC dX0_reckonRests_19 k1_m1 ?_
        refine go_ixor hC dX0_reckonRests_20 ?_
        refine go_iand hC dX0_reckonRests_21 ?_
        refine go_iload_n hC dX0_reckonRests_22 rfl 2 rfl ?_
        obtain ⟨r_8, h_9, hc, hf⟩ := bd_e2 hf
        refine go_callV hC (c_X0_reckonRestsOf x3 (x1 &&& (x3 ^^^ (-1))) x2 h h_9 hc) gX0_reckonRests_X0_reckonRestsOf rfl ⟨rfl, rfl⟩ 3 e_X0_reckonRestsOf ⟨Nat.le_of_ble_eq_true rfl, Nat.le_of_ble_eq_true rfl⟩ (b_23 _) rfl rfl (st := []) (st1 := []) rfl rfl (Nat.le_of_ble_eq_true rfl) ⟨Nat.zero_le _, Nat.zero_le _⟩ dX0_reckonRests_23 ?_
        obtain ⟨x3_10, ex3_10, hf⟩ := lt_e hf
        refine go_iinc hC dX0_reckonRests_26 3 rfl k1_1 ex3_10 (Nat.le_of_ble_eq_true rfl) rfl ?_
        refine go_goto hC dX0_reckonRests_29 (tgt := 2) (by decide) ?_
        obtain rfl := so_1 hf
        refine go_sub [1, 2, 3, 0] rfl ?_
        exact ih x3_10 h_9 _ (lp_c hy) hk
theorem e_X0_reckonRests : yX0_reckonRests.cls = RX0 ∧ yX0_reckonRests.cls ≠ "java/lang/invoke/MethodHandle" ∧ yX0_reckonRests.cls ≠ "java/lang/invoke/VarHandle" ∧ (parseMethodDescriptor yX0_reckonRests.desc).map (fun d => d.parameters.length) = some 2 := by decide +kernel
set_option maxRecDepth 100000 in
set_option maxHeartbeats 4000000 in
theorem c_X0_reckonRests (x1 : Int32) (x2 : Int32) (h : PH) (h2 : PH) (hf : f_X0_reckonRests x1 x2 h = some ((), h2)) : Con yX0_reckonRests wsX0_reckonRests (rm_d 3) l0_B [.ref 23, .int x1, .int x2] h none h2 := by

  refine con_v (cc := cX0_reckonRests) (nL := 4) (by decide) rfl (Nat.le_of_ble_eq_true rfl) ?_
  intro C hC hret
  change Go l0_B C 0 0 0 [(0, .ref 23), (1, .int x1), (2, .int x2)] [] h
  unfold f_X0_reckonRests at hf
  refine go_iconst hC dX0_reckonRests_0 k1_0 ?_
  refine go_istore_n hC dX0_reckonRests_1 rfl (Nat.le_of_ble_eq_true rfl) rfl ?_
  obtain ⟨s_13, hl, hf⟩ := bd_e1 hf
  refine go_sub [1, 2, 3, 0] rfl ?_
  refine lw_X0_reckonRests_2 hC x1 x2 _ 0 h s_13 hl ?_
  obtain ⟨-, rfl⟩ := so_2 hf
  exact hret _ _ dX0_reckonRests_32
def f_X0_leastFromBox (x1 : Int32) (h : PH) : Option (Int32) :=
  bd_1 (f_X0_leastFrom (-1) x1 h) fun r_1 =>
  some r_1
theorem e_X0_leastFromBox : yX0_leastFromBox.cls = RX0 ∧ yX0_leastFromBox.cls ≠ "java/lang/invoke/MethodHandle" ∧ yX0_leastFromBox.cls ≠ "java/lang/invoke/VarHandle" ∧ (parseMethodDescriptor yX0_leastFromBox.desc).map (fun d => d.parameters.length) = some 1 := by decide +kernel
set_option maxRecDepth 100000 in
set_option maxHeartbeats 4000000 in
theorem c_X0_leastFromBox (x1 : Int32) (h : PH) (r : Int32) (hf : f_X0_leastFromBox x1 h = some r) : Con yX0_leastFromBox wsX0_leastFromBox (rm_d 2) l0_B [.ref 23, .int x1] h (some (.int r)) h := by

  refine con_i (ty := .int) (cc := cX0_leastFromBox) (nL := 2) (by decide) rfl (Nat.le_of_ble_eq_true rfl) ?_
  intro C hC hret
  change Go l0_B C 0 0 0 [(0, .ref 23), (1, .int x1)] [] h
  unfold f_X0_leastFromBox at hf
  refine go_aload_n hC dX0_leastFromBox_0 rfl 0 rfl ?_
  refine go_iconst hC dX0_leastFromBox_1 k1_m1 ?_
  refine go_iload_n hC dX0_leastFromBox_2 rfl 1 rfl ?_
  obtain ⟨r_1, hc, hf⟩ := bd_e1 hf
  refine go_callV hC (c_X0_leastFrom (-1) x1 h r_1 hc) gX0_leastFromBox_X0_leastFrom rfl ⟨rfl, rfl⟩ 2 e_X0_leastFrom ⟨Nat.le_of_ble_eq_true rfl, Nat.le_of_ble_eq_true rfl⟩ (b_23 _) rfl rfl (st := []) (st1 := [.int r_1]) rfl rfl (Nat.le_of_ble_eq_true rfl) ⟨Nat.zero_le _, Nat.zero_le _⟩ dX0_leastFromBox_3 ?_
  obtain rfl := so_1 hf
  exact hret _ _ rfl dX0_leastFromBox_6
def lb_X0_reckonSets_6 (x1 : Int32) (x3 : Int32) (h : PH) : Option ((Int32 × PH) ⊕ (Int32 × PH)) :=
  if x1 < x3 then (
  some (.inr (x3, h)))
  else (
  bd_1 (f_X0_leastFromBox x3 h) fun r_8 =>
  ga_i x3 256 (
  lt_b (ph_i h 28 x3.toNatClampNeg r_8) fun h_10 =>
  lt_b (x3 + 1) fun x3_11 =>
  some (.inl (x3_11, h_10))))
def f_X0_reckonSets (x1 : Int32) (h : PH) : Option (Unit × PH) :=
  ga_i 0 256 (
  lt_b (ph_i h 28 (0 : Int32).toNatClampNeg 0) fun h_2 =>
  bd_1 (lp_f (fun s => lb_X0_reckonSets_6 x1 s.1 s.2) fu_l (1, h_2)) fun s_13 =>
  some ((), s_13.2))
set_option maxRecDepth 100000 in
set_option maxHeartbeats 4000000 in
theorem lw_X0_reckonSets_6 {C : GC} (hC : Cx C cX0_reckonSets 4 wsX0_reckonSets RX0 none (rm_d 3)) (x1 : Int32) : ∀ (n9 : Nat) (x3 : Int32) (h : PH) (y : Int32 × PH), lp_f (fun s => lb_X0_reckonSets_6 x1 s.1 s.2) n9 (x3, h) = some y → ∀ (hk : Go l0_B C 0 0 25 [] [] y.2), Go l0_B C 0 0 6 [(0, .ref 23), (1, .int x1), (2, .ref 28), (3, .int x3)] [] h := by

  intro n9
  induction n9 with
  | zero =>
    intro x3 h y hlp
    cases hlp
  | succ n9 ih =>
    intro x3 h y hlp hk
    obtain ⟨k9, z, hk9, hf, hy⟩ := lp_e hlp
    cases hk9
    replace hf : lb_X0_reckonSets_6 x1 x3 h = some z := hf
    unfold lb_X0_reckonSets_6 at hf
    refine go_iload_n hC dX0_reckonSets_6 rfl 3 rfl ?_
    refine go_iload_n hC dX0_reckonSets_7 rfl 1 rfl ?_
    refine go_icmp_gt hC dX0_reckonSets_8 (tgt := 25) (by decide) (fun c_12 => ?_) (fun c_12 => ?_)
    · replace hf := if_t c_12 hf
      obtain rfl := so_1 hf
      obtain rfl := lp_x hy
      refine go_sub [] rfl ?_
      exact hk
    · replace hf := if_f c_12 hf
      refine go_aload_n hC dX0_reckonSets_11 rfl 2 rfl ?_
      refine go_iload_n hC dX0_reckonSets_12 rfl 3 rfl ?_
      refine go_aload_n hC dX0_reckonSets_13 rfl 0 rfl ?_
      refine go_iload_n hC dX0_reckonSets_14 rfl 3 rfl ?_
      obtain ⟨r_8, hc, hf⟩ := bd_e1 hf
      refine go_callV hC (c_X0_leastFromBox x3 h r_8 hc) gX0_reckonSets_X0_leastFromBox rfl ⟨rfl, rfl⟩ 1 e_X0_leastFromBox ⟨Nat.le_of_ble_eq_true rfl, Nat.le_of_ble_eq_true rfl⟩ (b_23 _) rfl rfl (st := [.int x3, .ref 28]) (st1 := [.int r_8, .int x3, .ref 28]) rfl rfl (Nat.le_of_ble_eq_true rfl) ⟨Nat.zero_le _, Nat.zero_le _⟩ dX0_reckonSets_15 ?_
      obtain ⟨g_9, hf⟩ := ga_e hf
      obtain ⟨h_10, eh_10, hf⟩ := lt_e hf
      refine go_iast hC (b_28 _) g_9 dX0_reckonSets_18 ?_
      refine go_toph eh_10 ?_
      obtain ⟨x3_11, ex3_11, hf⟩ := lt_e hf
      refine go_iinc hC dX0_reckonSets_19 3 rfl k1_1 ex3_11 (Nat.le_of_ble_eq_true rfl) rfl ?_
      refine go_goto hC dX0_reckonSets_22 (tgt := 6) (by decide) ?_
      obtain rfl := so_1 hf
      refine go_sub [1, 2, 3, 0] rfl ?_
      exact ih x3_11 h_10 _ (lp_c hy) hk
theorem e_X0_reckonSets : yX0_reckonSets.cls = RX0 ∧ yX0_reckonSets.cls ≠ "java/lang/invoke/MethodHandle" ∧ yX0_reckonSets.cls ≠ "java/lang/invoke/VarHandle" ∧ (parseMethodDescriptor yX0_reckonSets.desc).map (fun d => d.parameters.length) = some 2 := by decide +kernel
set_option maxRecDepth 100000 in
set_option maxHeartbeats 4000000 in
theorem c_X0_reckonSets (x1 : Int32) (h : PH) (h2 : PH) (hf : f_X0_reckonSets x1 h = some ((), h2)) : Con yX0_reckonSets wsX0_reckonSets (rm_d 3) l0_B [.ref 23, .int x1, .ref 28] h none h2 := by

  refine con_v (cc := cX0_reckonSets) (nL := 4) (by decide) rfl (Nat.le_of_ble_eq_true rfl) ?_
  intro C hC hret
  change Go l0_B C 0 0 0 [(0, .ref 23), (1, .int x1), (2, .ref 28)] [] h
  unfold f_X0_reckonSets at hf
  refine go_aload_n hC dX0_reckonSets_0 rfl 2 rfl ?_
  refine go_iconst hC dX0_reckonSets_1 k1_0 ?_
  refine go_iconst hC dX0_reckonSets_2 k1_0 ?_
  obtain ⟨g_1, hf⟩ := ga_e hf
  obtain ⟨h_2, eh_2, hf⟩ := lt_e hf
  refine go_iast hC (b_28 _) g_1 dX0_reckonSets_3 ?_
  refine go_toph eh_2 ?_
  refine go_iconst hC dX0_reckonSets_4 k1_1 ?_
  refine go_istore_n hC dX0_reckonSets_5 rfl (Nat.le_of_ble_eq_true rfl) rfl ?_
  obtain ⟨s_13, hl, hf⟩ := bd_e1 hf
  refine go_sub [1, 2, 3, 0] rfl ?_
  refine lw_X0_reckonSets_6 hC x1 _ 1 h_2 s_13 hl ?_
  obtain ⟨-, rfl⟩ := so_2 hf
  exact hret _ _ dX0_reckonSets_25
def lb_X0_firstFrom_10 (x1 : Int32) (x2 : Int32) (x3 : Int32) (h : PH) (x4 : Int32) : Option ((Int32) ⊕ ((Int32) ⊕ (Int32))) :=
  if 8 ≤ x4 then (
  some (.inr (.inr x4)))
  else (
  if ((x2 >>> (x4 &&& 31)) &&& 1) = 0 then (
  lt_b (x4 + 1) fun x4_8 =>
  some (.inl x4_8))
  else (
  bd_1 (f_X0_over x1 x4 x2 h) fun r_9 =>
  if r_9 = x3 then (
  some (.inr (.inl x4)))
  else (
  lt_b (x4 + 1) fun x4_10 =>
  some (.inl x4_10))))
def f_X0_firstFrom (x1 : Int32) (x2 : Int32) (h : PH) : Option (Int32) :=
  bd_1 (f_X0_leastFrom x1 x2 h) fun r_1 =>
  bd_1 (lp_f (fun s => lb_X0_firstFrom_10 x1 x2 r_1 h s) fu_l 0) fun s_14 => sw_b s_14 (fun r_16 => some r_16) fun e_15 =>
  some 0
set_option maxRecDepth 100000 in
set_option maxHeartbeats 4000000 in
theorem lw_X0_firstFrom_10 {C : GC} (hC : Cx C cX0_firstFrom 5 wsX0_firstFrom RX0 (some .int) (rm_d 2)) (x1 : Int32) (x2 : Int32) (x3 : Int32) (h : PH) : ∀ (n9 : Nat) (x4 : Int32) (y : (Int32) ⊕ (Int32)), lp_f (fun s => lb_X0_firstFrom_10 x1 x2 x3 h s) n9 x4 = some y → ∀ (hk : match y with | .inl r => (∀ (pc : Nat) (L : List (Nat × Value)), narrow .int (.int r) = .int r → decode cX0_firstFrom pc = .ok (.ireturn, 1) → Go l0_B C 0 0 pc L [.int r] h) | .inr e => Go l0_B C 0 0 47 [] [] h), Go l0_B C 0 0 10 [(0, .ref 23), (1, .int x1), (2, .int x2), (3, .int x3), (4, .int x4)] [] h := by

  intro n9
  induction n9 with
  | zero =>
    intro x4 y hlp
    cases hlp
  | succ n9 ih =>
    intro x4 y hlp hk
    obtain ⟨k9, z, hk9, hf, hy⟩ := lp_e hlp
    cases hk9
    replace hf : lb_X0_firstFrom_10 x1 x2 x3 h x4 = some z := hf
    unfold lb_X0_firstFrom_10 at hf
    refine go_iload hC dX0_firstFrom_10 4 rfl ?_
    refine go_bipush hC dX0_firstFrom_12 k8_8 ?_
    refine go_icmp_ge hC dX0_firstFrom_14 (tgt := 47) (by decide) (fun c_13 => ?_) (fun c_13 => ?_)
    · replace hf := if_t c_13 hf
      obtain rfl := so_1 hf
      obtain rfl := lp_x hy
      refine go_sub [] rfl ?_
      exact hk
    · replace hf := if_f c_13 hf
      refine go_iload_n hC dX0_firstFrom_17 rfl 2 rfl ?_
      refine go_iload hC dX0_firstFrom_18 4 rfl ?_
      refine go_ishr hC dX0_firstFrom_20 ?_
      refine go_iconst hC dX0_firstFrom_21 k1_1 ?_
      refine go_iand hC dX0_firstFrom_22 ?_
      refine go_if_eq hC dX0_firstFrom_23 (tgt := 41) (by decide) (fun c_12 => ?_) (fun c_12 => ?_)
      · replace hf := if_t c_12 hf
        obtain ⟨x4_8, ex4_8, hf⟩ := lt_e hf
        refine go_iinc hC dX0_firstFrom_41 4 rfl k1_1 ex4_8 (Nat.le_of_ble_eq_true rfl) rfl ?_
        refine go_goto hC dX0_firstFrom_44 (tgt := 10) (by decide) ?_
        obtain rfl := so_1 hf
        refine go_sub [1, 2, 3, 4, 0] rfl ?_
        exact ih x4_8 _ (lp_c hy) hk
      · replace hf := if_f c_12 hf
        refine go_aload_n hC dX0_firstFrom_26 rfl 0 rfl ?_
        refine go_iload_n hC dX0_firstFrom_27 rfl 1 rfl ?_
        refine go_iload hC dX0_firstFrom_28 4 rfl ?_
        refine go_iload_n hC dX0_firstFrom_30 rfl 2 rfl ?_
        obtain ⟨r_9, hc, hf⟩ := bd_e1 hf
        refine go_callV hC (c_X0_over x1 x4 x2 h r_9 hc) gX0_firstFrom_X0_over rfl ⟨rfl, rfl⟩ 3 e_X0_over ⟨Nat.le_of_ble_eq_true rfl, Nat.le_of_ble_eq_true rfl⟩ (b_23 _) rfl rfl (st := []) (st1 := [.int r_9]) rfl rfl (Nat.le_of_ble_eq_true rfl) ⟨Nat.zero_le _, Nat.zero_le _⟩ dX0_firstFrom_31 ?_
        refine go_iload_n hC dX0_firstFrom_34 rfl 3 rfl ?_
        refine go_icmp_ne hC dX0_firstFrom_35 (tgt := 41) (by decide) (fun c_11 => ?_) (fun c_11 => ?_)
        · replace hf := if_f c_11 hf
          obtain ⟨x4_10, ex4_10, hf⟩ := lt_e hf
          refine go_iinc hC dX0_firstFrom_41 4 rfl k1_1 ex4_10 (Nat.le_of_ble_eq_true rfl) rfl ?_
          refine go_goto hC dX0_firstFrom_44 (tgt := 10) (by decide) ?_
          obtain rfl := so_1 hf
          refine go_sub [1, 2, 3, 4, 0] rfl ?_
          exact ih x4_10 _ (lp_c hy) hk
        · replace hf := if_t c_11 hf
          refine go_iload hC dX0_firstFrom_38 4 rfl ?_
          obtain rfl := so_1 hf
          obtain rfl := lp_x hy
          exact hk _ _ rfl dX0_firstFrom_40
theorem e_X0_firstFrom : yX0_firstFrom.cls = RX0 ∧ yX0_firstFrom.cls ≠ "java/lang/invoke/MethodHandle" ∧ yX0_firstFrom.cls ≠ "java/lang/invoke/VarHandle" ∧ (parseMethodDescriptor yX0_firstFrom.desc).map (fun d => d.parameters.length) = some 2 := by decide +kernel
set_option maxRecDepth 100000 in
set_option maxHeartbeats 4000000 in
theorem c_X0_firstFrom (x1 : Int32) (x2 : Int32) (h : PH) (r : Int32) (hf : f_X0_firstFrom x1 x2 h = some r) : Con yX0_firstFrom wsX0_firstFrom (rm_d 2) l0_B [.ref 23, .int x1, .int x2] h (some (.int r)) h := by

  refine con_i (ty := .int) (cc := cX0_firstFrom) (nL := 5) (by decide) rfl (Nat.le_of_ble_eq_true rfl) ?_
  intro C hC hret
  change Go l0_B C 0 0 0 [(0, .ref 23), (1, .int x1), (2, .int x2)] [] h
  unfold f_X0_firstFrom at hf
  refine go_aload_n hC dX0_firstFrom_0 rfl 0 rfl ?_
  refine go_iload_n hC dX0_firstFrom_1 rfl 1 rfl ?_
  refine go_iload_n hC dX0_firstFrom_2 rfl 2 rfl ?_
  obtain ⟨r_1, hc, hf⟩ := bd_e1 hf
  refine go_callV hC (c_X0_leastFrom x1 x2 h r_1 hc) gX0_firstFrom_X0_leastFrom rfl ⟨rfl, rfl⟩ 2 e_X0_leastFrom ⟨Nat.le_of_ble_eq_true rfl, Nat.le_of_ble_eq_true rfl⟩ (b_23 _) rfl rfl (st := []) (st1 := [.int r_1]) rfl rfl (Nat.le_of_ble_eq_true rfl) ⟨Nat.zero_le _, Nat.zero_le _⟩ dX0_firstFrom_3 ?_
  refine go_istore_n hC dX0_firstFrom_6 rfl (Nat.le_of_ble_eq_true rfl) rfl ?_
  refine go_iconst hC dX0_firstFrom_7 k1_0 ?_
  refine go_istore hC dX0_firstFrom_8 (Nat.le_of_ble_eq_true rfl) rfl ?_
  obtain ⟨s_14, hl, hf⟩ := bd_e1 hf
  refine go_sub [2, 3, 4, 1, 0] rfl ?_
  refine lw_X0_firstFrom_10 hC x1 x2 r_1 h _ 0 s_14 hl ?_
  rcases s_14 with r_16 | e_15
  · replace hf : some r_16 = some _ := hf
    cases hf
    exact hret
  · replace hf := sw_r hf
    refine go_iconst hC dX0_firstFrom_47 k1_0 ?_
    obtain rfl := so_1 hf
    exact hret _ _ rfl dX0_firstFrom_48
def lb_X0_stopOfOrder_8 (x2 : Int32) (h : PH) (x3 : Int32) (x4 : Int32) (x5 : Int32) : Option ((Int32 × Int32 × Int32) ⊕ ((Int32) ⊕ (Int32 × Int32 × Int32))) :=
  if x2 < x5 then (
  some (.inr (.inr (x3, x4, x5))))
  else (
  if x4 = 0 then (
  some (.inr (.inr (x3, x4, x5))))
  else (
  bd_1 (f_X0_firstFrom x3 x4 h) fun r_7 =>
  lt_b (x4 &&& (((1 : Int32) <<< (r_7 &&& 31)) ^^^ (-1))) fun x4_8 =>
  if x5 = x2 then (
  some (.inr (.inl r_7)))
  else (
  lt_b (x5 + 1) fun x5_9 =>
  some (.inl (r_7, x4_8, x5_9)))))
def f_X0_stopOfOrder (x1 : Int32) (x2 : Int32) (h : PH) : Option (Int32) :=
  bd_1 (lp_f (fun s => lb_X0_stopOfOrder_8 x2 h s.1 s.2.1 s.2.2) fu_l ((-1), x1, 0)) fun s_13 => sw_b s_13 (fun r_15 => some r_15) fun e_14 =>
  some (-9)
set_option maxRecDepth 100000 in
set_option maxHeartbeats 4000000 in
theorem lw_X0_stopOfOrder_8 {C : GC} (hC : Cx C cX0_stopOfOrder 6 wsX0_stopOfOrder RX0 (some .int) (rm_d 3)) (x2 : Int32) (h : PH) : ∀ (n9 : Nat) (x3 : Int32) (x4 : Int32) (x5 : Int32) (y : (Int32) ⊕ (Int32 × Int32 × Int32)), lp_f (fun s => lb_X0_stopOfOrder_8 x2 h s.1 s.2.1 s.2.2) n9 (x3, x4, x5) = some y → ∀ (hk : match y with | .inl r => (∀ (pc : Nat) (L : List (Nat × Value)), narrow .int (.int r) = .int r → decode cX0_stopOfOrder pc = .ok (.ireturn, 1) → Go l0_B C 0 0 pc L [.int r] h) | .inr e => Go l0_B C 0 0 51 [] [] h), Go l0_B C 0 0 8 [(0, .ref 23), (2, .int x2), (3, .int x3), (4, .int x4), (5, .int x5)] [] h := by

  intro n9
  induction n9 with
  | zero =>
    intro x3 x4 x5 y hlp
    cases hlp
  | succ n9 ih =>
    intro x3 x4 x5 y hlp hk
    obtain ⟨k9, z, hk9, hf, hy⟩ := lp_e hlp
    cases hk9
    replace hf : lb_X0_stopOfOrder_8 x2 h x3 x4 x5 = some z := hf
    unfold lb_X0_stopOfOrder_8 at hf
    refine go_iload hC dX0_stopOfOrder_8 4 rfl ?_
    refine go_iload_n hC dX0_stopOfOrder_10 rfl 1 rfl ?_
    refine go_icmp_gt hC dX0_stopOfOrder_11 (tgt := 51) (by decide) (fun c_12 => ?_) (fun c_12 => ?_)
    · replace hf := if_t c_12 hf
      obtain rfl := so_1 hf
      obtain rfl := lp_x hy
      refine go_sub [] rfl ?_
      exact hk
    · replace hf := if_f c_12 hf
      refine go_iload hC dX0_stopOfOrder_14 3 rfl ?_
      refine go_if_eq hC dX0_stopOfOrder_16 (tgt := 51) (by decide) (fun c_11 => ?_) (fun c_11 => ?_)
      · replace hf := if_t c_11 hf
        obtain rfl := so_1 hf
        obtain rfl := lp_x hy
        refine go_sub [] rfl ?_
        exact hk
      · replace hf := if_f c_11 hf
        refine go_aload_n hC dX0_stopOfOrder_19 rfl 0 rfl ?_
        refine go_iload_n hC dX0_stopOfOrder_20 rfl 2 rfl ?_
        refine go_iload hC dX0_stopOfOrder_21 3 rfl ?_
        obtain ⟨r_7, hc, hf⟩ := bd_e1 hf
        refine go_callV hC (c_X0_firstFrom x3 x4 h r_7 hc) gX0_stopOfOrder_X0_firstFrom rfl ⟨rfl, rfl⟩ 2 e_X0_firstFrom ⟨Nat.le_of_ble_eq_true rfl, Nat.le_of_ble_eq_true rfl⟩ (b_23 _) rfl rfl (st := []) (st1 := [.int r_7]) rfl rfl (Nat.le_of_ble_eq_true rfl) ⟨Nat.zero_le _, Nat.zero_le _⟩ dX0_stopOfOrder_23 ?_
        refine go_istore_n hC dX0_stopOfOrder_26 rfl (Nat.le_of_ble_eq_true rfl) rfl ?_
        refine go_iload hC dX0_stopOfOrder_27 3 rfl ?_
        refine go_iconst hC dX0_stopOfOrder_29 k1_1 ?_
        refine go_iload_n hC dX0_stopOfOrder_30 rfl 0 rfl ?_
        refine go_ishl hC dX0_stopOfOrder_31 ?_
        refine go_iconst hC dX0_stopOfOrder_32 k1_m1 ?_
        refine go_ixor hC dX0_stopOfOrder_33 ?_
        refine go_iand hC dX0_stopOfOrder_34 ?_
        obtain ⟨x4_8, ex4_8, hf⟩ := lt_e hf
        refine go_topi ex4_8 ?_
        refine go_istore hC dX0_stopOfOrder_35 (Nat.le_of_ble_eq_true rfl) rfl ?_
        refine go_iload hC dX0_stopOfOrder_37 4 rfl ?_
        refine go_iload_n hC dX0_stopOfOrder_39 rfl 3 rfl ?_
        refine go_icmp_ne hC dX0_stopOfOrder_40 (tgt := 45) (by decide) (fun c_10 => ?_) (fun c_10 => ?_)
        · replace hf := if_f c_10 hf
          obtain ⟨x5_9, ex5_9, hf⟩ := lt_e hf
          refine go_iinc hC dX0_stopOfOrder_45 4 rfl k1_1 ex5_9 (Nat.le_of_ble_eq_true rfl) rfl ?_
          refine go_goto hC dX0_stopOfOrder_48 (tgt := 8) (by decide) ?_
          obtain rfl := so_1 hf
          refine go_sub [3, 4, 2, 1, 0] rfl ?_
          exact ih r_7 x4_8 x5_9 _ (lp_c hy) hk
        · replace hf := if_t c_10 hf
          refine go_iload_n hC dX0_stopOfOrder_43 rfl 1 rfl ?_
          obtain rfl := so_1 hf
          obtain rfl := lp_x hy
          exact hk _ _ rfl dX0_stopOfOrder_44
theorem e_X0_stopOfOrder : yX0_stopOfOrder.cls = RX0 ∧ yX0_stopOfOrder.cls ≠ "java/lang/invoke/MethodHandle" ∧ yX0_stopOfOrder.cls ≠ "java/lang/invoke/VarHandle" ∧ (parseMethodDescriptor yX0_stopOfOrder.desc).map (fun d => d.parameters.length) = some 2 := by decide +kernel
set_option maxRecDepth 100000 in
set_option maxHeartbeats 4000000 in
theorem c_X0_stopOfOrder (x1 : Int32) (x2 : Int32) (h : PH) (r : Int32) (hf : f_X0_stopOfOrder x1 x2 h = some r) : Con yX0_stopOfOrder wsX0_stopOfOrder (rm_d 3) l0_B [.ref 23, .int x1, .int x2] h (some (.int r)) h := by

  refine con_i (ty := .int) (cc := cX0_stopOfOrder) (nL := 6) (by decide) rfl (Nat.le_of_ble_eq_true rfl) ?_
  intro C hC hret
  change Go l0_B C 0 0 0 [(0, .ref 23), (1, .int x1), (2, .int x2)] [] h
  unfold f_X0_stopOfOrder at hf
  refine go_iconst hC dX0_stopOfOrder_0 k1_m1 ?_
  refine go_istore_n hC dX0_stopOfOrder_1 rfl (Nat.le_of_ble_eq_true rfl) rfl ?_
  refine go_iload_n hC dX0_stopOfOrder_2 rfl 2 rfl ?_
  refine go_istore hC dX0_stopOfOrder_3 (Nat.le_of_ble_eq_true rfl) rfl ?_
  refine go_iconst hC dX0_stopOfOrder_5 k1_0 ?_
  refine go_istore hC dX0_stopOfOrder_6 (Nat.le_of_ble_eq_true rfl) rfl ?_
  obtain ⟨s_13, hl, hf⟩ := bd_e1 hf
  refine go_sub [3, 5, 2, 1, 0] rfl ?_
  refine lw_X0_stopOfOrder_8 hC x2 h _ (-1) x1 0 s_13 hl ?_
  rcases s_13 with r_15 | e_14
  · replace hf : some r_15 = some _ := hf
    cases hf
    exact hret
  · replace hf := sw_r hf
    refine go_bipush hC dX0_stopOfOrder_51 k8_m9 ?_
    obtain rfl := so_1 hf
    exact hret _ _ rfl dX0_stopOfOrder_53
