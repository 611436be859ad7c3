def f_X3_yardsFrom (x1 : Int32) (x2 : Int32) (h : PH) : Option (Int32) :=
  ga_i ((x1 * 8) + x2) 64 (
  lt_b (h.1 16 ((x1 * 8) + x2).toNatClampNeg) fun x3_2 =>
  if 1000000 ≤ x3_2 then (
  some 1000000)
  else (
  some (x3_2 / 1000)))
theorem e_X3_yardsFrom : yX3_yardsFrom.cls = RX3 ∧ yX3_yardsFrom.cls ≠ "java/lang/invoke/MethodHandle" ∧ yX3_yardsFrom.cls ≠ "java/lang/invoke/VarHandle" ∧ (parseMethodDescriptor yX3_yardsFrom.desc).map (fun d => d.parameters.length) = some 2 := by decide +kernel
set_option maxRecDepth 100000 in
set_option maxHeartbeats 4000000 in
theorem c_X3_yardsFrom (x1 : Int32) (x2 : Int32) (h : PH) (r : Int32) (hf : f_X3_yardsFrom x1 x2 h = some r) : Con yX3_yardsFrom wsX3_yardsFrom (rm_d 0) l0_B [.ref 10, .int x1, .int x2] h (some (.int r)) h := by
  have hn3 : ∀ w ∈ wsX30, w ∈ wsX3_yardsFrom := (fun _ hw => (List.mem_cons_of_mem _ (List.mem_append_right _ hw)))
  refine con_i (ty := .int) (cc := cX3_yardsFrom) (nL := 4) (by decide) rfl (Nat.le_of_ble_eq_true rfl) ?_
  intro C hC hret
  change Go l0_B C 0 0 0 [(0, .ref 10), (1, .int x1), (2, .int x2)] [] h
  unfold f_X3_yardsFrom at hf
  refine go_aload_n hC dX3_yardsFrom_0 rfl 0 rfl ?_
  refine go_getr hC (j := 8) (idx := 28) (nm := "apart") (ds := "[I") (b_10 _) rfl rfl hn3 (Nat.le_of_ble_eq_true rfl) rfl rfl (List.mem_cons_of_mem _ (List.mem_append_left _ (List.mem_of_getElem? (i := 0) rfl))) (Or.inl rfl) dX3_yardsFrom_1 ?_
  refine go_iload_n hC dX3_yardsFrom_4 rfl 1 rfl ?_
  refine go_bipush hC dX3_yardsFrom_5 k8_8 ?_
  refine go_imul hC dX3_yardsFrom_7 ?_
  refine go_iload_n hC dX3_yardsFrom_8 rfl 2 rfl ?_
  refine go_iadd hC dX3_yardsFrom_9 ?_
  obtain ⟨g_1, hf⟩ := ga_e hf
  refine go_iald hC (b_16 _) g_1 dX3_yardsFrom_10 ?_
  obtain ⟨x3_2, ex3_2, hf⟩ := lt_e hf
  refine go_topi ex3_2 ?_
  refine go_istore_n hC dX3_yardsFrom_11 rfl (Nat.le_of_ble_eq_true rfl) rfl ?_
  refine go_iload_n hC dX3_yardsFrom_12 rfl 0 rfl ?_
  refine go_ldc hC (v := 1000000) (List.mem_cons_of_mem _ (List.mem_append_left _ (List.mem_of_getElem? (i := 1) rfl))) dX3_yardsFrom_13 ?_
  refine go_icmp_ge hC dX3_yardsFrom_15 (tgt := 26) (by decide) (fun c_3 => ?_) (fun c_3 => ?_)
  · replace hf := if_t c_3 hf
    refine go_ldc hC (v := 1000000) (List.mem_cons_of_mem _ (List.mem_append_left _ (List.mem_of_getElem? (i := 1) rfl))) dX3_yardsFrom_26 ?_
    obtain rfl := so_1 hf
    exact hret _ _ rfl dX3_yardsFrom_28
  · replace hf := if_f c_3 hf
    refine go_iload_n hC dX3_yardsFrom_18 rfl 0 rfl ?_
    refine go_sipush hC dX3_yardsFrom_19 k16_1000 ?_
    refine go_idiv hC dX3_yardsFrom_22 (by decide) ?_
    refine go_goto hC dX3_yardsFrom_23 (tgt := 28) (by decide) ?_
    obtain rfl := so_1 hf
    exact hret _ _ rfl dX3_yardsFrom_28
def f_X3_drilledFrom (x1 : Int32) (x2 : Int32) (h : PH) : Option (Int32) :=
  ga_i ((x1 * 8) + x2) 64 (
  some ((h.1 16 ((x1 * 8) + x2).toNatClampNeg) - (h.1 16 ((x1 * 8) + x2).toNatClampNeg) / 1000 * 1000))
theorem e_X3_drilledFrom : yX3_drilledFrom.cls = RX3 ∧ yX3_drilledFrom.cls ≠ "java/lang/invoke/MethodHandle" ∧ yX3_drilledFrom.cls ≠ "java/lang/invoke/VarHandle" ∧ (parseMethodDescriptor yX3_drilledFrom.desc).map (fun d => d.parameters.length) = some 2 := by decide +kernel
set_option maxRecDepth 100000 in
set_option maxHeartbeats 4000000 in
theorem c_X3_drilledFrom (x1 : Int32) (x2 : Int32) (h : PH) (r : Int32) (hf : f_X3_drilledFrom x1 x2 h = some r) : Con yX3_drilledFrom wsX3_drilledFrom (rm_d 0) l0_B [.ref 10, .int x1, .int x2] h (some (.int r)) h := by
  have hn3 : ∀ w ∈ wsX30, w ∈ wsX3_drilledFrom := (fun _ hw => (List.mem_cons_of_mem _ (List.mem_append_right _ hw)))
  refine con_i (ty := .int) (cc := cX3_drilledFrom) (nL := 3) (by decide) rfl (Nat.le_of_ble_eq_true rfl) ?_
  intro C hC hret
  change Go l0_B C 0 0 0 [(0, .ref 10), (1, .int x1), (2, .int x2)] [] h
  unfold f_X3_drilledFrom at hf
  refine go_aload_n hC dX3_drilledFrom_0 rfl 0 rfl ?_
  refine go_getr hC (j := 8) (idx := 28) (nm := "apart") (ds := "[I") (b_10 _) rfl rfl hn3 (Nat.le_of_ble_eq_true rfl) rfl rfl (List.mem_cons_of_mem _ (List.mem_append_left _ (List.mem_of_getElem? (i := 0) rfl))) (Or.inl rfl) dX3_drilledFrom_1 ?_
  refine go_iload_n hC dX3_drilledFrom_4 rfl 1 rfl ?_
  refine go_bipush hC dX3_drilledFrom_5 k8_8 ?_
  refine go_imul hC dX3_drilledFrom_7 ?_
  refine go_iload_n hC dX3_drilledFrom_8 rfl 2 rfl ?_
  refine go_iadd hC dX3_drilledFrom_9 ?_
  obtain ⟨g_1, hf⟩ := ga_e hf
  refine go_iald hC (b_16 _) g_1 dX3_drilledFrom_10 ?_
  refine go_sipush hC dX3_drilledFrom_11 k16_1000 ?_
  refine go_irem hC dX3_drilledFrom_14 (by decide) ?_
  obtain rfl := so_1 hf
  exact hret _ _ rfl dX3_drilledFrom_15
def f_X3_length (x1 : Int32) (h : PH) : Option (Int32) :=
  ga_i x1 14 (
  ga_i x1 14 (
  some (((h.1 13 x1.toNatClampNeg) * 1000) + (h.1 14 x1.toNatClampNeg))))
theorem e_X3_length : yX3_length.cls = RX3 ∧ yX3_length.cls ≠ "java/lang/invoke/MethodHandle" ∧ yX3_length.cls ≠ "java/lang/invoke/VarHandle" ∧ (parseMethodDescriptor yX3_length.desc).map (fun d => d.parameters.length) = some 1 := by decide +kernel
set_option maxRecDepth 100000 in
set_option maxHeartbeats 4000000 in
theorem c_X3_length (x1 : Int32) (h : PH) (r : Int32) (hf : f_X3_length x1 h = some r) : Con yX3_length wsX3_length (rm_d 0) l0_B [.ref 10, .int x1] h (some (.int r)) h := by
  have hn3 : ∀ w ∈ wsX30, w ∈ wsX3_length := (fun _ hw => (List.mem_cons_of_mem _ (List.mem_append_right _ hw)))
  refine con_i (ty := .int) (cc := cX3_length) (nL := 2) (by decide) rfl (Nat.le_of_ble_eq_true rfl) ?_
  intro C hC hret
  change Go l0_B C 0 0 0 [(0, .ref 10), (1, .int x1)] [] h
  unfold f_X3_length at hf
  refine go_aload_n hC dX3_length_0 rfl 0 rfl ?_
  refine go_getr hC (j := 5) (idx := 18) (nm := "yards") (ds := "[I") (b_10 _) rfl rfl hn3 (Nat.le_of_ble_eq_true rfl) rfl rfl (List.mem_cons_of_mem _ (List.mem_append_left _ (List.mem_of_getElem? (i := 0) rfl))) (Or.inl rfl) dX3_length_1 ?_
  refine go_iload_n hC dX3_length_4 rfl 1 rfl ?_
  obtain ⟨g_1, hf⟩ := ga_e hf
  refine go_iald hC (b_13 _) g_1 dX3_length_5 ?_
  refine go_sipush hC dX3_length_6 k16_1000 ?_
  refine go_imul hC dX3_length_9 ?_
  refine go_aload_n hC dX3_length_10 rfl 0 rfl ?_
  refine go_getr hC (j := 6) (idx := 21) (nm := "drilled") (ds := "[I") (b_10 _) rfl rfl hn3 (Nat.le_of_ble_eq_true rfl) rfl rfl (List.mem_cons_of_mem _ (List.mem_append_left _ (List.mem_of_getElem? (i := 1) rfl))) (Or.inl rfl) dX3_length_11 ?_
  refine go_iload_n hC dX3_length_14 rfl 1 rfl ?_
  obtain ⟨g_2, hf⟩ := ga_e hf
  refine go_iald hC (b_14 _) g_2 dX3_length_15 ?_
  refine go_iadd hC dX3_length_16 ?_
  obtain rfl := so_1 hf
  exact hret _ _ rfl dX3_length_17
def f_X3_shorten (x1 : Int32) (x2 : Int32) (x3 : Int32) (h : PH) : Option (Unit × PH) :=
  ga_i ((x1 * 8) + x2) 64 (
  if (h.1 16 ((x1 * 8) + x2).toNatClampNeg) ≤ x3 then (
  some ((), h))
  else (
  ga_i ((x1 * 8) + x2) 64 (
  lt_b (ph_i h 16 ((x1 * 8) + x2).toNatClampNeg x3) fun h_3 =>
  some ((), h_3))))
theorem e_X3_shorten : yX3_shorten.cls = RX3 ∧ yX3_shorten.cls ≠ "java/lang/invoke/MethodHandle" ∧ yX3_shorten.cls ≠ "java/lang/invoke/VarHandle" ∧ (parseMethodDescriptor yX3_shorten.desc).map (fun d => d.parameters.length) = some 3 := by decide +kernel
set_option maxRecDepth 100000 in
set_option maxHeartbeats 4000000 in
theorem c_X3_shorten (x1 : Int32) (x2 : Int32) (x3 : Int32) (h : PH) (h2 : PH) (hf : f_X3_shorten x1 x2 x3 h = some ((), h2)) : Con yX3_shorten wsX3_shorten (rm_d 0) l0_B [.ref 10, .int x1, .int x2, .int x3] h none h2 := by
  have hn3 : ∀ w ∈ wsX30, w ∈ wsX3_shorten := (fun _ hw => (List.mem_cons_of_mem _ (List.mem_append_right _ hw)))
  refine con_v (cc := cX3_shorten) (nL := 4) (by decide) rfl (Nat.le_of_ble_eq_true rfl) ?_
  intro C hC hret
  change Go l0_B C 0 0 0 [(0, .ref 10), (1, .int x1), (2, .int x2), (3, .int x3)] [] h
  unfold f_X3_shorten at hf
  refine go_iload_n hC dX3_shorten_0 rfl 3 rfl ?_
  refine go_aload_n hC dX3_shorten_1 rfl 0 rfl ?_
  refine go_getr hC (j := 8) (idx := 28) (nm := "apart") (ds := "[I") (b_10 _) rfl rfl hn3 (Nat.le_of_ble_eq_true rfl) rfl rfl (List.mem_cons_of_mem _ (List.mem_append_left _ (List.mem_of_getElem? (i := 0) rfl))) (Or.inl rfl) dX3_shorten_2 ?_
  refine go_iload_n hC dX3_shorten_5 rfl 1 rfl ?_
  refine go_bipush hC dX3_shorten_6 k8_8 ?_
  refine go_imul hC dX3_shorten_8 ?_
  refine go_iload_n hC dX3_shorten_9 rfl 2 rfl ?_
  refine go_iadd hC dX3_shorten_10 ?_
  obtain ⟨g_1, hf⟩ := ga_e hf
  refine go_iald hC (b_16 _) g_1 dX3_shorten_11 ?_
  refine go_icmp_ge hC dX3_shorten_12 (tgt := 27) (by decide) (fun c_4 => ?_) (fun c_4 => ?_)
  · replace hf := if_t c_4 hf
    obtain ⟨-, rfl⟩ := so_2 hf
    exact hret _ _ dX3_shorten_27
  · replace hf := if_f c_4 hf
    refine go_aload_n hC dX3_shorten_15 rfl 0 rfl ?_
    refine go_getr hC (j := 8) (idx := 28) (nm := "apart") (ds := "[I") (b_10 _) rfl rfl hn3 (Nat.le_of_ble_eq_true rfl) rfl rfl (List.mem_cons_of_mem _ (List.mem_append_left _ (List.mem_of_getElem? (i := 0) rfl))) (Or.inl rfl) dX3_shorten_16 ?_
    refine go_iload_n hC dX3_shorten_19 rfl 1 rfl ?_
    refine go_bipush hC dX3_shorten_20 k8_8 ?_
    refine go_imul hC dX3_shorten_22 ?_
    refine go_iload_n hC dX3_shorten_23 rfl 2 rfl ?_
    refine go_iadd hC dX3_shorten_24 ?_
    refine go_iload_n hC dX3_shorten_25 rfl 3 rfl ?_
    obtain ⟨g_2, hf⟩ := ga_e hf
    obtain ⟨h_3, eh_3, hf⟩ := lt_e hf
    refine go_iast hC (b_16 _) g_2 dX3_shorten_26 ?_
    refine go_toph eh_3 ?_
    obtain ⟨-, rfl⟩ := so_2 hf
    exact hret _ _ dX3_shorten_27
def lb_X3_reckon_10 (x1 : Int32) (x2 : Int32) (h : PH) : Option ((Int32 × PH) ⊕ (Int32 × PH)) :=
  if 8 ≤ x2 then (
  some (.inr (x2, h)))
  else (
  if x1 = x2 then (
  ga_i ((x1 * 8) + x2) 64 (
  lt_b (ph_i h 16 ((x1 * 8) + x2).toNatClampNeg 0) fun h_13 =>
  lt_b (x2 + 1) fun x2_14 =>
  some (.inl (x2_14, h_13))))
  else (
  ga_i ((x1 * 8) + x2) 64 (
  lt_b (ph_i h 16 ((x1 * 8) + x2).toNatClampNeg 1000000) fun h_10 =>
  lt_b (x2 + 1) fun x2_11 =>
  some (.inl (x2_11, h_10)))))
def lb_X3_reckon_2  (x1 : Int32) (h : PH) : Option ((Int32 × PH) ⊕ (Int32 × PH)) :=
  if 8 ≤ x1 then (
  some (.inr (x1, h)))
  else (
  bd_1 (lp_f (fun s => lb_X3_reckon_10 x1 s.1 s.2) fu_l (0, h)) fun s_20 =>
  lt_b (x1 + 1) fun x1_21 =>
  some (.inl (x1_21, s_20.2)))
def lb_X3_reckon_52  (x1 : Int32) (h : PH) : Option ((Int32 × PH) ⊕ (Int32 × PH)) :=
  if (h.1 10 2) ≤ x1 then (
  some (.inr (x1, h)))
  else (
  ga_i x1 14 (
  if (h.1 15 x1.toNatClampNeg) = 0 then (
  ga_i x1 14 (
  ga_i x1 14 (
  bd_1 (f_X3_length x1 h) fun r_43 =>
  bd_2 (f_X3_shorten (h.1 11 x1.toNatClampNeg) (h.1 12 x1.toNatClampNeg) r_43 h) fun r_44 h_45 =>
  ga_i x1 14 (
  ga_i x1 14 (
  bd_1 (f_X3_length x1 h_45) fun r_48 =>
  bd_2 (f_X3_shorten (h_45.1 12 x1.toNatClampNeg) (h_45.1 11 x1.toNatClampNeg) r_48 h_45) fun r_49 h_50 =>
  lt_b (x1 + 1) fun x1_51 =>
  some (.inl (x1_51, h_50)))))))
  else (
  lt_b (x1 + 1) fun x1_40 =>
  some (.inl (x1_40, h)))))
def lb_X3_reckon_139 (x1 : Int32) (x2 : Int32) (x3 : Int32) (h : PH) : Option ((Int32 × PH) ⊕ (Int32 × PH)) :=
  if (h.1 10 0) ≤ x3 then (
  some (.inr (x3, h)))
  else (
  ga_i ((x2 * 8) + x1) 64 (
  ga_i ((x1 * 8) + x3) 64 (
  bd_2 (f_X3_shorten x2 x3 ((h.1 16 ((x2 * 8) + x1).toNatClampNeg) + (h.1 16 ((x1 * 8) + x3).toNatClampNeg)) h) fun r_63 h_64 =>
  lt_b (x3 + 1) fun x3_65 =>
  some (.inl (x3_65, h_64)))))
def lb_X3_reckon_129 (x1 : Int32) (x2 : Int32) (h : PH) : Option ((Int32 × PH) ⊕ (Int32 × PH)) :=
  if (h.1 10 0) ≤ x2 then (
  some (.inr (x2, h)))
  else (
  bd_1 (lp_f (fun s => lb_X3_reckon_139 x1 x2 s.1 s.2) fu_l (0, h)) fun s_70 =>
  lt_b (x2 + 1) fun x2_71 =>
  some (.inl (x2_71, s_70.2)))
def lb_X3_reckon_119  (x1 : Int32) (h : PH) : Option ((Int32 × PH) ⊕ (Int32 × PH)) :=
  if (h.1 10 0) ≤ x1 then (
  some (.inr (x1, h)))
  else (
  bd_1 (lp_f (fun s => lb_X3_reckon_129 x1 s.1 s.2) fu_l (0, h)) fun s_76 =>
  lt_b (x1 + 1) fun x1_77 =>
  some (.inl (x1_77, s_76.2)))
def f_X3_reckon (h : PH) : Option (Unit × PH) :=
  bd_1 (lp_f (fun s => lb_X3_reckon_2  s.1 s.2) fu_l (0, h)) fun s_23 =>
  bd_1 (lp_f (fun s => lb_X3_reckon_52  s.1 s.2) fu_l (0, s_23.2)) fun s_54 =>
  bd_1 (lp_f (fun s => lb_X3_reckon_119  s.1 s.2) fu_l (0, s_54.2)) fun s_79 =>
  some ((), s_79.2)
set_option maxRecDepth 100000 in
set_option maxHeartbeats 4000000 in
theorem lw_X3_reckon_10 {C : GC} (hC : Cx C cX3_reckon 4 wsX3_reckon RX3 none (rm_d 1)) (x1 : Int32) : ∀ (n9 : Nat) (x2 : Int32) (h : PH) (y : Int32 × PH), lp_f (fun s => lb_X3_reckon_10 x1 s.1 s.2) n9 (x2, h) = some y → ∀ (hk : Go l0_B C 0 0 44 [(0, .ref 10), (1, .int x1)] [] y.2), Go l0_B C 0 0 10 [(0, .ref 10), (1, .int x1), (2, .int x2)] [] h := by
  have hn3 : ∀ w ∈ wsX30, w ∈ wsX3_reckon := (fun _ hw => (List.mem_cons_of_mem _ (List.mem_append_right _ hw)))
  intro n9
  induction n9 with
  | zero =>
    intro x2 h y hlp
    cases hlp
  | succ n9 ih =>
    intro x2 h y hlp hk
    obtain ⟨k9, z, hk9, hf, hy⟩ := lp_e hlp
    cases hk9
    replace hf : lb_X3_reckon_10 x1 x2 h = some z := hf
    unfold lb_X3_reckon_10 at hf
    refine go_iload_n hC dX3_reckon_10 rfl 2 rfl ?_
    refine go_bipush hC dX3_reckon_11 k8_8 ?_
    refine go_icmp_ge hC dX3_reckon_13 (tgt := 44) (by decide) (fun c_16 => ?_) (fun c_16 => ?_)
    · replace hf := if_t c_16 hf
      obtain rfl := so_1 hf
      obtain rfl := lp_x hy
      refine go_sub [0, 1] rfl ?_
      exact hk
    · replace hf := if_f c_16 hf
      refine go_aload_n hC dX3_reckon_16 rfl 0 rfl ?_
      refine go_getr hC (j := 8) (idx := 28) (nm := "apart") (ds := "[I") (b_10 _) rfl rfl hn3 (Nat.le_of_ble_eq_true rfl) rfl rfl (List.mem_cons_of_mem _ (List.mem_append_left _ (List.mem_of_getElem? (i := 0) rfl))) (Or.inl rfl) dX3_reckon_17 ?_
      refine go_iload_n hC dX3_reckon_20 rfl 1 rfl ?_
      refine go_bipush hC dX3_reckon_21 k8_8 ?_
      refine go_imul hC dX3_reckon_23 ?_
      refine go_iload_n hC dX3_reckon_24 rfl 2 rfl ?_
      refine go_iadd hC dX3_reckon_25 ?_
      refine go_iload_n hC dX3_reckon_26 rfl 1 rfl ?_
      refine go_iload_n hC dX3_reckon_27 rfl 2 rfl ?_
      refine go_icmp_ne hC dX3_reckon_28 (tgt := 35) (by decide) (fun c_15 => ?_) (fun c_15 => ?_)
      · replace hf := if_f c_15 hf
        refine go_ldc hC (v := 1000000) (List.mem_cons_of_mem _ (List.mem_append_left _ (List.mem_of_getElem? (i := 1) rfl))) dX3_reckon_35 ?_
        obtain ⟨g_9, hf⟩ := ga_e hf
        obtain ⟨h_10, eh_10, hf⟩ := lt_e hf
        refine go_iast hC (b_16 _) g_9 dX3_reckon_37 ?_
        refine go_toph eh_10 ?_
        obtain ⟨x2_11, ex2_11, hf⟩ := lt_e hf
        refine go_iinc hC dX3_reckon_38 2 rfl k1_1 ex2_11 (Nat.le_of_ble_eq_true rfl) rfl ?_
        refine go_goto hC dX3_reckon_41 (tgt := 10) (by decide) ?_
        obtain rfl := so_1 hf
        refine go_sub [1, 2, 0] rfl ?_
        exact ih x2_11 h_10 _ (lp_c hy) hk
      · replace hf := if_t c_15 hf
        refine go_iconst hC dX3_reckon_31 k1_0 ?_
        refine go_goto hC dX3_reckon_32 (tgt := 37) (by decide) ?_
        obtain ⟨g_12, hf⟩ := ga_e hf
        obtain ⟨h_13, eh_13, hf⟩ := lt_e hf
        refine go_iast hC (b_16 _) g_12 dX3_reckon_37 ?_
        refine go_toph eh_13 ?_
        obtain ⟨x2_14, ex2_14, hf⟩ := lt_e hf
        refine go_iinc hC dX3_reckon_38 2 rfl k1_1 ex2_14 (Nat.le_of_ble_eq_true rfl) rfl ?_
        refine go_goto hC dX3_reckon_41 (tgt := 10) (by decide) ?_
        obtain rfl := so_1 hf
        refine go_sub [1, 2, 0] rfl ?_
        exact ih x2_14 h_13 _ (lp_c hy) hk
set_option maxRecDepth 100000 in
set_option maxHeartbeats 4000000 in
theorem lw_X3_reckon_2 {C : GC} (hC : Cx C cX3_reckon 4 wsX3_reckon RX3 none (rm_d 1))  : ∀ (n9 : Nat) (x1 : Int32) (h : PH) (y : Int32 × PH), lp_f (fun s => lb_X3_reckon_2  s.1 s.2) n9 (x1, h) = some y → ∀ (hk : Go l0_B C 0 0 50 [(0, .ref 10)] [] y.2), Go l0_B C 0 0 2 [(0, .ref 10), (1, .int x1)] [] h := by
  have hn3 : ∀ w ∈ wsX30, w ∈ wsX3_reckon := (fun _ hw => (List.mem_cons_of_mem _ (List.mem_append_right _ hw)))
  intro n9
  induction n9 with
  | zero =>
    intro x1 h y hlp
    cases hlp
  | succ n9 ih =>
    intro x1 h y hlp hk
    obtain ⟨k9, z, hk9, hf, hy⟩ := lp_e hlp
    cases hk9
    replace hf : lb_X3_reckon_2  x1 h = some z := hf
    unfold lb_X3_reckon_2 at hf
    refine go_iload_n hC dX3_reckon_2 rfl 1 rfl ?_
    refine go_bipush hC dX3_reckon_3 k8_8 ?_
    refine go_icmp_ge hC dX3_reckon_5 (tgt := 50) (by decide) (fun c_22 => ?_) (fun c_22 => ?_)
    · replace hf := if_t c_22 hf
      obtain rfl := so_1 hf
      obtain rfl := lp_x hy
      refine go_sub [0] rfl ?_
      exact hk
    · replace hf := if_f c_22 hf
      refine go_iconst hC dX3_reckon_8 k1_0 ?_
      refine go_istore_n hC dX3_reckon_9 rfl (Nat.le_of_ble_eq_true rfl) rfl ?_
      obtain ⟨s_20, hl, hf⟩ := bd_e1 hf
      refine go_sub [1, 2, 0] rfl ?_
      refine lw_X3_reckon_10 hC x1 _ 0 h s_20 hl ?_
      obtain ⟨x1_21, ex1_21, hf⟩ := lt_e hf
      refine go_iinc hC dX3_reckon_44 1 rfl k1_1 ex1_21 (Nat.le_of_ble_eq_true rfl) rfl ?_
      refine go_goto hC dX3_reckon_47 (tgt := 2) (by decide) ?_
      obtain rfl := so_1 hf
      refine go_sub [1, 0] rfl ?_
      exact ih x1_21 s_20.2 _ (lp_c hy) hk
set_option maxRecDepth 100000 in
set_option maxHeartbeats 4000000 in
theorem lw_X3_reckon_52 {C : GC} (hC : Cx C cX3_reckon 4 wsX3_reckon RX3 none (rm_d 1))  : ∀ (n9 : Nat) (x1 : Int32) (h : PH) (y : Int32 × PH), lp_f (fun s => lb_X3_reckon_52  s.1 s.2) n9 (x1, h) = some y → ∀ (hk : Go l0_B C 0 0 117 [(0, .ref 10)] [] y.2), Go l0_B C 0 0 52 [(0, .ref 10), (1, .int x1)] [] h := by
  have hn3 : ∀ w ∈ wsX30, w ∈ wsX3_reckon := (fun _ hw => (List.mem_cons_of_mem _ (List.mem_append_right _ hw)))
  intro n9
  induction n9 with
  | zero =>
    intro x1 h y hlp
    cases hlp
  | succ n9 ih =>
    intro x1 h y hlp hk
    obtain ⟨k9, z, hk9, hf, hy⟩ := lp_e hlp
    cases hk9
    replace hf : lb_X3_reckon_52  x1 h = some z := hf
    unfold lb_X3_reckon_52 at hf
    refine go_iload_n hC dX3_reckon_52 rfl 1 rfl ?_
    refine go_aload_n hC dX3_reckon_53 rfl 0 rfl ?_
    refine go_geti hC (j := 2) (idx := 45) (nm := "runs") (ds := "I") (b_10 _) rfl rfl hn3 (Nat.le_of_ble_eq_true rfl) rfl rfl (List.mem_cons_of_mem _ (List.mem_append_left _ (List.mem_of_getElem? (i := 2) rfl))) (Or.inl rfl) dX3_reckon_54 ?_
    refine go_icmp_ge hC dX3_reckon_57 (tgt := 117) (by decide) (fun c_53 => ?_) (fun c_53 => ?_)
    · replace hf := if_t c_53 hf
      obtain rfl := so_1 hf
      obtain rfl := lp_x hy
      refine go_sub [0] rfl ?_
      exact hk
    · replace hf := if_f c_53 hf
      refine go_aload_n hC dX3_reckon_60 rfl 0 rfl ?_
      refine go_getr hC (j := 7) (idx := 24) (nm := "closed") (ds := "[Z") (b_10 _) rfl rfl hn3 (Nat.le_of_ble_eq_true rfl) rfl rfl (List.mem_cons_of_mem _ (List.mem_append_left _ (List.mem_of_getElem? (i := 3) rfl))) (Or.inl rfl) dX3_reckon_61 ?_
      refine go_iload_n hC dX3_reckon_64 rfl 1 rfl ?_
      obtain ⟨g_39, hf⟩ := ga_e hf
      refine go_zald hC (b_15 _) g_39 dX3_reckon_65 ?_
      refine go_if_ne hC dX3_reckon_66 (tgt := 111) (by decide) (fun c_52 => ?_) (fun c_52 => ?_)
      · replace hf := if_f c_52 hf
        obtain ⟨x1_40, ex1_40, hf⟩ := lt_e hf
        refine go_iinc hC dX3_reckon_111 1 rfl k1_1 ex1_40 (Nat.le_of_ble_eq_true rfl) rfl ?_
        refine go_goto hC dX3_reckon_114 (tgt := 52) (by decide) ?_
        obtain rfl := so_1 hf
        refine go_sub [1, 0] rfl ?_
        exact ih x1_40 h _ (lp_c hy) hk
      · replace hf := if_t c_52 hf
        refine go_aload_n hC dX3_reckon_69 rfl 0 rfl ?_
        refine go_aload_n hC dX3_reckon_70 rfl 0 rfl ?_
        refine go_getr hC (j := 3) (idx := 9) (nm := "from") (ds := "[I") (b_10 _) rfl rfl hn3 (Nat.le_of_ble_eq_true rfl) rfl rfl (List.mem_cons_of_mem _ (List.mem_append_left _ (List.mem_of_getElem? (i := 4) rfl))) (Or.inl rfl) dX3_reckon_71 ?_
        refine go_iload_n hC dX3_reckon_74 rfl 1 rfl ?_
        obtain ⟨g_41, hf⟩ := ga_e hf
        refine go_iald hC (b_11 _) g_41 dX3_reckon_75 ?_
        refine go_aload_n hC dX3_reckon_76 rfl 0 rfl ?_
        refine go_getr hC (j := 4) (idx := 15) (nm := "to") (ds := "[I") (b_10 _) rfl rfl hn3 (Nat.le_of_ble_eq_true rfl) rfl rfl (List.mem_cons_of_mem _ (List.mem_append_left _ (List.mem_of_getElem? (i := 5) rfl))) (Or.inl rfl) dX3_reckon_77 ?_
        refine go_iload_n hC dX3_reckon_80 rfl 1 rfl ?_
        obtain ⟨g_42, hf⟩ := ga_e hf
        refine go_iald hC (b_12 _) g_42 dX3_reckon_81 ?_
        refine go_aload_n hC dX3_reckon_82 rfl 0 rfl ?_
        refine go_iload_n hC dX3_reckon_83 rfl 1 rfl ?_
        obtain ⟨r_43, hc, hf⟩ := bd_e1 hf
        refine go_callV hC (c_X3_length x1 h r_43 hc) gX3_reckon_X3_length rfl ⟨rfl, rfl⟩ 1 e_X3_length ⟨Nat.le_of_ble_eq_true rfl, Nat.le_of_ble_eq_true rfl⟩ (b_10 _) rfl rfl (st := [.int (h.1 12 x1.toNatClampNeg), .int (h.1 11 x1.toNatClampNeg), .ref 10]) (st1 := [.int r_43, .int (h.1 12 x1.toNatClampNeg), .int (h.1 11 x1.toNatClampNeg), .ref 10]) rfl rfl (Nat.le_of_ble_eq_true rfl) ⟨Nat.zero_le _, Nat.zero_le _⟩ dX3_reckon_84 ?_
        obtain ⟨r_44, h_45, hc, hf⟩ := bd_e2 hf
        refine go_callV hC (c_X3_shorten (h.1 11 x1.toNatClampNeg) (h.1 12 x1.toNatClampNeg) r_43 h h_45 hc) gX3_reckon_X3_shorten rfl ⟨rfl, rfl⟩ 3 e_X3_shorten ⟨Nat.le_of_ble_eq_true rfl, Nat.le_of_ble_eq_true rfl⟩ (b_10 _) rfl rfl (st := []) (st1 := []) rfl rfl (Nat.le_of_ble_eq_true rfl) ⟨Nat.zero_le _, Nat.zero_le _⟩ dX3_reckon_87 ?_
        refine go_aload_n hC dX3_reckon_90 rfl 0 rfl ?_
        refine go_aload_n hC dX3_reckon_91 rfl 0 rfl ?_
        refine go_getr hC (j := 4) (idx := 15) (nm := "to") (ds := "[I") (b_10 _) rfl rfl hn3 (Nat.le_of_ble_eq_true rfl) rfl rfl (List.mem_cons_of_mem _ (List.mem_append_left _ (List.mem_of_getElem? (i := 5) rfl))) (Or.inl rfl) dX3_reckon_92 ?_
        refine go_iload_n hC dX3_reckon_95 rfl 1 rfl ?_
        obtain ⟨g_46, hf⟩ := ga_e hf
        refine go_iald hC (b_12 _) g_46 dX3_reckon_96 ?_
        refine go_aload_n hC dX3_reckon_97 rfl 0 rfl ?_
        refine go_getr hC (j := 3) (idx := 9) (nm := "from") (ds := "[I") (b_10 _) rfl rfl hn3 (Nat.le_of_ble_eq_true rfl) rfl rfl (List.mem_cons_of_mem _ (List.mem_append_left _ (List.mem_of_getElem? (i := 4) rfl))) (Or.inl rfl) dX3_reckon_98 ?_
        refine go_iload_n hC dX3_reckon_101 rfl 1 rfl ?_
        obtain ⟨g_47, hf⟩ := ga_e hf
        refine go_iald hC (b_11 _) g_47 dX3_reckon_102 ?_
        refine go_aload_n hC dX3_reckon_103 rfl 0 rfl ?_
        refine go_iload_n hC dX3_reckon_104 rfl 1 rfl ?_
        obtain ⟨r_48, hc, hf⟩ := bd_e1 hf
        refine go_callV hC (c_X3_length x1 h_45 r_48 hc) gX3_reckon_X3_length rfl ⟨rfl, rfl⟩ 1 e_X3_length ⟨Nat.le_of_ble_eq_true rfl, Nat.le_of_ble_eq_true rfl⟩ (b_10 _) rfl rfl (st := [.int (h_45.1 11 x1.toNatClampNeg), .int (h_45.1 12 x1.toNatClampNeg), .ref 10]) (st1 := [.int r_48, .int (h_45.1 11 x1.toNatClampNeg), .int (h_45.1 12 x1.toNatClampNeg), .ref 10]) rfl rfl (Nat.le_of_ble_eq_true rfl) ⟨Nat.zero_le _, Nat.zero_le _⟩ dX3_reckon_105 ?_
        obtain ⟨r_49, h_50, hc, hf⟩ := bd_e2 hf
        refine go_callV hC (c_X3_shorten (h_45.1 12 x1.toNatClampNeg) (h_45.1 11 x1.toNatClampNeg) r_48 h_45 h_50 hc) gX3_reckon_X3_shorten rfl ⟨rfl, rfl⟩ 3 e_X3_shorten ⟨Nat.le_of_ble_eq_true rfl, Nat.le_of_ble_eq_true rfl⟩ (b_10 _) rfl rfl (st := []) (st1 := []) rfl rfl (Nat.le_of_ble_eq_true rfl) ⟨Nat.zero_le _, Nat.zero_le _⟩ dX3_reckon_108 ?_
        obtain ⟨x1_51, ex1_51, hf⟩ := lt_e hf
        refine go_iinc hC dX3_reckon_111 1 rfl k1_1 ex1_51 (Nat.le_of_ble_eq_true rfl) rfl ?_
        refine go_goto hC dX3_reckon_114 (tgt := 52) (by decide) ?_
        obtain rfl := so_1 hf
        refine go_sub [1, 0] rfl ?_
        exact ih x1_51 h_50 _ (lp_c hy) hk
set_option maxRecDepth 100000 in
set_option maxHeartbeats 4000000 in
theorem lw_X3_reckon_139 {C : GC} (hC : Cx C cX3_reckon 4 wsX3_reckon RX3 none (rm_d 1)) (x1 : Int32) (x2 : Int32) : ∀ (n9 : Nat) (x3 : Int32) (h : PH) (y : Int32 × PH), lp_f (fun s => lb_X3_reckon_139 x1 x2 s.1 s.2) n9 (x3, h) = some y → ∀ (hk : Go l0_B C 0 0 182 [(0, .ref 10), (1, .int x1), (2, .int x2)] [] y.2), Go l0_B C 0 0 139 [(0, .ref 10), (1, .int x1), (2, .int x2), (3, .int x3)] [] h := by
  have hn3 : ∀ w ∈ wsX30, w ∈ wsX3_reckon := (fun _ hw => (List.mem_cons_of_mem _ (List.mem_append_right _ hw)))
  intro n9
  induction n9 with
  | zero =>
    intro x3 h y hlp
    cases hlp
  | succ n9 ih =>
    intro x3 h y hlp hk
    obtain ⟨k9, z, hk9, hf, hy⟩ := lp_e hlp
    cases hk9
    replace hf : lb_X3_reckon_139 x1 x2 x3 h = some z := hf
    unfold lb_X3_reckon_139 at hf
    refine go_iload_n hC dX3_reckon_139 rfl 3 rfl ?_
    refine go_aload_n hC dX3_reckon_140 rfl 0 rfl ?_
    refine go_geti hC (j := 0) (idx := 37) (nm := "places") (ds := "I") (b_10 _) rfl rfl hn3 (Nat.le_of_ble_eq_true rfl) rfl rfl (List.mem_cons_of_mem _ (List.mem_append_left _ (List.mem_of_getElem? (i := 6) rfl))) (Or.inl rfl) dX3_reckon_141 ?_
    refine go_icmp_ge hC dX3_reckon_144 (tgt := 182) (by decide) (fun c_66 => ?_) (fun c_66 => ?_)
    · replace hf := if_t c_66 hf
      obtain rfl := so_1 hf
      obtain rfl := lp_x hy
      refine go_sub [0, 1, 2] rfl ?_
      exact hk
    · replace hf := if_f c_66 hf
      refine go_aload_n hC dX3_reckon_147 rfl 0 rfl ?_
      refine go_iload_n hC dX3_reckon_148 rfl 2 rfl ?_
      refine go_iload_n hC dX3_reckon_149 rfl 3 rfl ?_
      refine go_aload_n hC dX3_reckon_150 rfl 0 rfl ?_
      refine go_getr hC (j := 8) (idx := 28) (nm := "apart") (ds := "[I") (b_10 _) rfl rfl hn3 (Nat.le_of_ble_eq_true rfl) rfl rfl (List.mem_cons_of_mem _ (List.mem_append_left _ (List.mem_of_getElem? (i := 0) rfl))) (Or.inl rfl) dX3_reckon_151 ?_
      refine go_iload_n hC dX3_reckon_154 rfl 2 rfl ?_
      refine go_bipush hC dX3_reckon_155 k8_8 ?_
      refine go_imul hC dX3_reckon_157 ?_
      refine go_iload_n hC dX3_reckon_158 rfl 1 rfl ?_
      refine go_iadd hC dX3_reckon_159 ?_
      obtain ⟨g_61, hf⟩ := ga_e hf
      refine go_iald hC (b_16 _) g_61 dX3_reckon_160 ?_
      refine go_aload_n hC dX3_reckon_161 rfl 0 rfl ?_
      refine go_getr hC (j := 8) (idx := 28) (nm := "apart") (ds := "[I") (b_10 _) rfl rfl hn3 (Nat.le_of_ble_eq_true rfl) rfl rfl (List.mem_cons_of_mem _ (List.mem_append_left _ (List.mem_of_getElem? (i := 0) rfl))) (Or.inl rfl) dX3_reckon_162 ?_
      refine go_iload_n hC dX3_reckon_165 rfl 1 rfl ?_
      refine go_bipush hC dX3_reckon_166 k8_8 ?_
      refine go_imul hC dX3_reckon_168 ?_
      refine go_iload_n hC dX3_reckon_169 rfl 3 rfl ?_
      refine go_iadd hC dX3_reckon_170 ?_
      obtain ⟨g_62, hf⟩ := ga_e hf
      refine go_iald hC (b_16 _) g_62 dX3_reckon_171 ?_
      refine go_iadd hC dX3_reckon_172 ?_
      obtain ⟨r_63, h_64, hc, hf⟩ := bd_e2 hf
      refine go_callV hC (c_X3_shorten x2 x3 ((h.1 16 ((x2 * 8) + x1).toNatClampNeg) + (h.1 16 ((x1 * 8) + x3).toNatClampNeg)) h h_64 hc) gX3_reckon_X3_shorten rfl ⟨rfl, rfl⟩ 3 e_X3_shorten ⟨Nat.le_of_ble_eq_true rfl, Nat.le_of_ble_eq_true rfl⟩ (b_10 _) rfl rfl (st := []) (st1 := []) rfl rfl (Nat.le_of_ble_eq_true rfl) ⟨Nat.zero_le _, Nat.zero_le _⟩ dX3_reckon_173 ?_
      obtain ⟨x3_65, ex3_65, hf⟩ := lt_e hf
      refine go_iinc hC dX3_reckon_176 3 rfl k1_1 ex3_65 (Nat.le_of_ble_eq_true rfl) rfl ?_
      refine go_goto hC dX3_reckon_179 (tgt := 139) (by decide) ?_
      obtain rfl := so_1 hf
      refine go_sub [1, 2, 3, 0] rfl ?_
      exact ih x3_65 h_64 _ (lp_c hy) hk
set_option maxRecDepth 100000 in
set_option maxHeartbeats 4000000 in
theorem lw_X3_reckon_129 {C : GC} (hC : Cx C cX3_reckon 4 wsX3_reckon RX3 none (rm_d 1)) (x1 : Int32) : ∀ (n9 : Nat) (x2 : Int32) (h : PH) (y : Int32 × PH), lp_f (fun s => lb_X3_reckon_129 x1 s.1 s.2) n9 (x2, h) = some y → ∀ (hk : Go l0_B C 0 0 188 [(0, .ref 10), (1, .int x1)] [] y.2), Go l0_B C 0 0 129 [(0, .ref 10), (1, .int x1), (2, .int x2)] [] h := by
  have hn3 : ∀ w ∈ wsX30, w ∈ wsX3_reckon := (fun _ hw => (List.mem_cons_of_mem _ (List.mem_append_right _ hw)))
  intro n9
  induction n9 with
  | zero =>
    intro x2 h y hlp
    cases hlp
  | succ n9 ih =>
    intro x2 h y hlp hk
    obtain ⟨k9, z, hk9, hf, hy⟩ := lp_e hlp
    cases hk9
    replace hf : lb_X3_reckon_129 x1 x2 h = some z := hf
    unfold lb_X3_reckon_129 at hf
    refine go_iload_n hC dX3_reckon_129 rfl 2 rfl ?_
    refine go_aload_n hC dX3_reckon_130 rfl 0 rfl ?_
    refine go_geti hC (j := 0) (idx := 37) (nm := "places") (ds := "I") (b_10 _) rfl rfl hn3 (Nat.le_of_ble_eq_true rfl) rfl rfl (List.mem_cons_of_mem _ (List.mem_append_left _ (List.mem_of_getElem? (i := 6) rfl))) (Or.inl rfl) dX3_reckon_131 ?_
    refine go_icmp_ge hC dX3_reckon_134 (tgt := 188) (by decide) (fun c_72 => ?_) (fun c_72 => ?_)
    · replace hf := if_t c_72 hf
      obtain rfl := so_1 hf
      obtain rfl := lp_x hy
      refine go_sub [0, 1] rfl ?_
      exact hk
    · replace hf := if_f c_72 hf
      refine go_iconst hC dX3_reckon_137 k1_0 ?_
      refine go_istore_n hC dX3_reckon_138 rfl (Nat.le_of_ble_eq_true rfl) rfl ?_
      obtain ⟨s_70, hl, hf⟩ := bd_e1 hf
      refine go_sub [1, 2, 3, 0] rfl ?_
      refine lw_X3_reckon_139 hC x1 x2 _ 0 h s_70 hl ?_
      obtain ⟨x2_71, ex2_71, hf⟩ := lt_e hf
      refine go_iinc hC dX3_reckon_182 2 rfl k1_1 ex2_71 (Nat.le_of_ble_eq_true rfl) rfl ?_
      refine go_goto hC dX3_reckon_185 (tgt := 129) (by decide) ?_
      obtain rfl := so_1 hf
      refine go_sub [1, 2, 0] rfl ?_
      exact ih x2_71 s_70.2 _ (lp_c hy) hk
set_option maxRecDepth 100000 in
set_option maxHeartbeats 4000000 in
theorem lw_X3_reckon_119 {C : GC} (hC : Cx C cX3_reckon 4 wsX3_reckon RX3 none (rm_d 1))  : ∀ (n9 : Nat) (x1 : Int32) (h : PH) (y : Int32 × PH), lp_f (fun s => lb_X3_reckon_119  s.1 s.2) n9 (x1, h) = some y → ∀ (hk : Go l0_B C 0 0 194 [] [] y.2), Go l0_B C 0 0 119 [(0, .ref 10), (1, .int x1)] [] h := by
  have hn3 : ∀ w ∈ wsX30, w ∈ wsX3_reckon := (fun _ hw => (List.mem_cons_of_mem _ (List.mem_append_right _ hw)))
  intro n9
  induction n9 with
  | zero =>
    intro x1 h y hlp
    cases hlp
  | succ n9 ih =>
    intro x1 h y hlp hk
    obtain ⟨k9, z, hk9, hf, hy⟩ := lp_e hlp
    cases hk9
    replace hf : lb_X3_reckon_119  x1 h = some z := hf
    unfold lb_X3_reckon_119 at hf
    refine go_iload_n hC dX3_reckon_119 rfl 1 rfl ?_
    refine go_aload_n hC dX3_reckon_120 rfl 0 rfl ?_
    refine go_geti hC (j := 0) (idx := 37) (nm := "places") (ds := "I") (b_10 _) rfl rfl hn3 (Nat.le_of_ble_eq_true rfl) rfl rfl (List.mem_cons_of_mem _ (List.mem_append_left _ (List.mem_of_getElem? (i := 6) rfl))) (Or.inl rfl) dX3_reckon_121 ?_
    refine go_icmp_ge hC dX3_reckon_124 (tgt := 194) (by decide) (fun c_78 => ?_) (fun c_78 => ?_)
    · replace hf := if_t c_78 hf
      obtain rfl := so_1 hf
      obtain rfl := lp_x hy
      refine go_sub [] rfl ?_
      exact hk
    · replace hf := if_f c_78 hf
      refine go_iconst hC dX3_reckon_127 k1_0 ?_
      refine go_istore_n hC dX3_reckon_128 rfl (Nat.le_of_ble_eq_true rfl) rfl ?_
      obtain ⟨s_76, hl, hf⟩ := bd_e1 hf
      refine go_sub [1, 2, 0] rfl ?_
      refine lw_X3_reckon_129 hC x1 _ 0 h s_76 hl ?_
      obtain ⟨x1_77, ex1_77, hf⟩ := lt_e hf
      refine go_iinc hC dX3_reckon_188 1 rfl k1_1 ex1_77 (Nat.le_of_ble_eq_true rfl) rfl ?_
      refine go_goto hC dX3_reckon_191 (tgt := 119) (by decide) ?_
      obtain rfl := so_1 hf
      refine go_sub [1, 0] rfl ?_
      exact ih x1_77 s_76.2 _ (lp_c hy) hk
theorem e_X3_reckon : yX3_reckon.cls = RX3 ∧ yX3_reckon.cls ≠ "java/lang/invoke/MethodHandle" ∧ yX3_reckon.cls ≠ "java/lang/invoke/VarHandle" ∧ (parseMethodDescriptor yX3_reckon.desc).map (fun d => d.parameters.length) = some 0 := by decide +kernel
set_option maxRecDepth 100000 in
set_option maxHeartbeats 4000000 in
theorem c_X3_reckon (h : PH) (h2 : PH) (hf : f_X3_reckon h = some ((), h2)) : Con yX3_reckon wsX3_reckon (rm_d 1) l0_B [.ref 10] h none h2 := by
  have hn3 : ∀ w ∈ wsX30, w ∈ wsX3_reckon := (fun _ hw => (List.mem_cons_of_mem _ (List.mem_append_right _ hw)))
  refine con_v (cc := cX3_reckon) (nL := 4) (by decide) rfl (Nat.le_of_ble_eq_true rfl) ?_
  intro C hC hret
  change Go l0_B C 0 0 0 [(0, .ref 10)] [] h
  unfold f_X3_reckon at hf
  refine go_iconst hC dX3_reckon_0 k1_0 ?_
  refine go_istore_n hC dX3_reckon_1 rfl (Nat.le_of_ble_eq_true rfl) rfl ?_
  obtain ⟨s_23, hl, hf⟩ := bd_e1 hf
  refine go_sub [1, 0] rfl ?_
  refine lw_X3_reckon_2 hC  _ 0 h s_23 hl ?_
  refine go_iconst hC dX3_reckon_50 k1_0 ?_
  refine go_istore_n hC dX3_reckon_51 rfl (Nat.le_of_ble_eq_true rfl) rfl ?_
  obtain ⟨s_54, hl, hf⟩ := bd_e1 hf
  refine go_sub [1, 0] rfl ?_
  refine lw_X3_reckon_52 hC  _ 0 s_23.2 s_54 hl ?_
  refine go_iconst hC dX3_reckon_117 k1_0 ?_
  refine go_istore_n hC dX3_reckon_118 rfl (Nat.le_of_ble_eq_true rfl) rfl ?_
  obtain ⟨s_79, hl, hf⟩ := bd_e1 hf
  refine go_sub [1, 0] rfl ?_
  refine lw_X3_reckon_119 hC  _ 0 s_54.2 s_79 hl ?_
  obtain ⟨-, rfl⟩ := so_2 hf
  exact hret _ _ dX3_reckon_194
def lb_X3_take_26  (x2 : Int32) (h : PH) : Option ((Int32 × PH) ⊕ (Int32 × PH)) :=
  if (h.1 10 2) ≤ x2 then (
  some (.inr (x2, h)))
  else (
  if 14 ≤ x2 then (
  some (.inr (x2, h)))
  else (
  ga_i x2 14 (
  ga_i x2 14 (
  lt_b (ph_i h 11 x2.toNatClampNeg (h.1 6 x2.toNatClampNeg)) fun h_23 =>
  ga_i x2 14 (
  ga_i x2 14 (
  lt_b (ph_i h_23 12 x2.toNatClampNeg (h_23.1 7 x2.toNatClampNeg)) fun h_26 =>
  ga_i x2 14 (
  ga_i x2 14 (
  lt_b (ph_i h_26 13 x2.toNatClampNeg (h_26.1 8 x2.toNatClampNeg)) fun h_29 =>
  ga_i x2 14 (
  ga_i x2 14 (
  lt_b (ph_i h_29 14 x2.toNatClampNeg (h_29.1 9 x2.toNatClampNeg)) fun h_32 =>
  ga_i x2 14 (
  lt_b (ph_i h_32 15 x2.toNatClampNeg 0) fun h_34 =>
  lt_b (x2 + 1) fun x2_35 =>
  some (.inl (x2_35, h_34)))))))))))))
def f_X3_take (h : PH) : Option (Unit × PH) :=
  lt_b (ph_i h 10 0 (h.1 5 4)) fun h_1 =>
  lt_b (ph_i h_1 10 1 (h_1.1 5 5)) fun h_2 =>
  lt_b (ph_i h_2 10 2 (h_2.1 5 6)) fun h_3 =>
  bd_1 (lp_f (fun s => lb_X3_take_26  s.1 s.2) fu_l (0, h_3)) fun s_38 =>
  bd_2 (f_X3_reckon s_38.2) fun r_39 h_40 =>
  some ((), h_40)
set_option maxRecDepth 100000 in
set_option maxHeartbeats 4000000 in
theorem lw_X3_take_26 {C : GC} (hC : Cx C cX3_take 3 wsX3_take RX3 none (rm_d 2))  : ∀ (n9 : Nat) (x2 : Int32) (h : PH) (y : Int32 × PH), lp_f (fun s => lb_X3_take_26  s.1 s.2) n9 (x2, h) = some y → ∀ (hk : Go l0_B C 0 0 101 [(0, .ref 10)] [] y.2), Go l0_B C 0 0 26 [(0, .ref 10), (1, .ref 5), (2, .int x2)] [] h := by
  have hn10 : ∀ w ∈ wsX100, w ∈ wsX3_take := (fun _ hw => (List.mem_cons_of_mem _ (List.mem_append_left _ (List.mem_append_right _ hw))))
  have hn3 : ∀ w ∈ wsX30, w ∈ wsX3_take := (fun _ hw => (List.mem_cons_of_mem _ (List.mem_append_right _ hw)))
  intro n9
  induction n9 with
  | zero =>
    intro x2 h y hlp
    cases hlp
  | succ n9 ih =>
    intro x2 h y hlp hk
    obtain ⟨k9, z, hk9, hf, hy⟩ := lp_e hlp
    cases hk9
    replace hf : lb_X3_take_26  x2 h = some z := hf
    unfold lb_X3_take_26 at hf
    refine go_iload_n hC dX3_take_26 rfl 2 rfl ?_
    refine go_aload_n hC dX3_take_27 rfl 0 rfl ?_
    refine go_geti hC (j := 2) (idx := 45) (nm := "runs") (ds := "I") (b_10 _) rfl rfl hn3 (Nat.le_of_ble_eq_true rfl) rfl rfl (List.mem_cons_of_mem _ (List.mem_append_left _ (List.mem_append_left _ (List.mem_append_left _ (List.mem_of_getElem? (i := 5) rfl))))) (Or.inl rfl) dX3_take_28 ?_
    refine go_icmp_ge hC dX3_take_31 (tgt := 101) (by decide) (fun c_37 => ?_) (fun c_37 => ?_)
    · replace hf := if_t c_37 hf
      obtain rfl := so_1 hf
      obtain rfl := lp_x hy
      refine go_sub [0] rfl ?_
      exact hk
    · replace hf := if_f c_37 hf
      refine go_iload_n hC dX3_take_34 rfl 2 rfl ?_
      refine go_bipush hC dX3_take_35 k8_14 ?_
      refine go_icmp_ge hC dX3_take_37 (tgt := 101) (by decide) (fun c_36 => ?_) (fun c_36 => ?_)
      · replace hf := if_t c_36 hf
        obtain rfl := so_1 hf
        obtain rfl := lp_x hy
        refine go_sub [0] rfl ?_
        exact hk
      · replace hf := if_f c_36 hf
        refine go_aload_n hC dX3_take_40 rfl 0 rfl ?_
        refine go_getr hC (j := 3) (idx := 9) (nm := "from") (ds := "[I") (b_10 _) rfl rfl hn3 (Nat.le_of_ble_eq_true rfl) rfl rfl (List.mem_cons_of_mem _ (List.mem_append_left _ (List.mem_append_left _ (List.mem_append_left _ (List.mem_of_getElem? (i := 6) rfl))))) (Or.inl rfl) dX3_take_41 ?_
        refine go_iload_n hC dX3_take_44 rfl 2 rfl ?_
        refine go_aload_n hC dX3_take_45 rfl 1 rfl ?_
        refine go_getr hC (j := 0) (idx := 46) (nm := "from") (ds := "[I") (b_5 _) rfl rfl hn10 (Nat.le_of_ble_eq_true rfl) rfl rfl (List.mem_cons_of_mem _ (List.mem_append_left _ (List.mem_append_left _ (List.mem_append_left _ (List.mem_of_getElem? (i := 7) rfl))))) (Or.inl rfl) dX3_take_46 ?_
        refine go_iload_n hC dX3_take_49 rfl 2 rfl ?_
        obtain ⟨g_21, hf⟩ := ga_e hf
        refine go_iald hC (b_6 _) g_21 dX3_take_50 ?_
        obtain ⟨g_22, hf⟩ := ga_e hf
        obtain ⟨h_23, eh_23, hf⟩ := lt_e hf
        refine go_iast hC (b_11 _) g_22 dX3_take_51 ?_
        refine go_toph eh_23 ?_
        refine go_aload_n hC dX3_take_52 rfl 0 rfl ?_
        refine go_getr hC (j := 4) (idx := 15) (nm := "to") (ds := "[I") (b_10 _) rfl rfl hn3 (Nat.le_of_ble_eq_true rfl) rfl rfl (List.mem_cons_of_mem _ (List.mem_append_left _ (List.mem_append_left _ (List.mem_append_left _ (List.mem_of_getElem? (i := 8) rfl))))) (Or.inl rfl) dX3_take_53 ?_
        refine go_iload_n hC dX3_take_56 rfl 2 rfl ?_
        refine go_aload_n hC dX3_take_57 rfl 1 rfl ?_
        refine go_getr hC (j := 1) (idx := 47) (nm := "to") (ds := "[I") (b_5 _) rfl rfl hn10 (Nat.le_of_ble_eq_true rfl) rfl rfl (List.mem_cons_of_mem _ (List.mem_append_left _ (List.mem_append_left _ (List.mem_append_left _ (List.mem_of_getElem? (i := 9) rfl))))) (Or.inl rfl) dX3_take_58 ?_
        refine go_iload_n hC dX3_take_61 rfl 2 rfl ?_
        obtain ⟨g_24, hf⟩ := ga_e hf
        refine go_iald hC (b_7 _) g_24 dX3_take_62 ?_
        obtain ⟨g_25, hf⟩ := ga_e hf
        obtain ⟨h_26, eh_26, hf⟩ := lt_e hf
        refine go_iast hC (b_12 _) g_25 dX3_take_63 ?_
        refine go_toph eh_26 ?_
        refine go_aload_n hC dX3_take_64 rfl 0 rfl ?_
        refine go_getr hC (j := 5) (idx := 18) (nm := "yards") (ds := "[I") (b_10 _) rfl rfl hn3 (Nat.le_of_ble_eq_true rfl) rfl rfl (List.mem_cons_of_mem _ (List.mem_append_left _ (List.mem_append_left _ (List.mem_append_left _ (List.mem_of_getElem? (i := 10) rfl))))) (Or.inl rfl) dX3_take_65 ?_
        refine go_iload_n hC dX3_take_68 rfl 2 rfl ?_
        refine go_aload_n hC dX3_take_69 rfl 1 rfl ?_
        refine go_getr hC (j := 2) (idx := 48) (nm := "yards") (ds := "[I") (b_5 _) rfl rfl hn10 (Nat.le_of_ble_eq_true rfl) rfl rfl (List.mem_cons_of_mem _ (List.mem_append_left _ (List.mem_append_left _ (List.mem_append_left _ (List.mem_of_getElem? (i := 11) rfl))))) (Or.inl rfl) dX3_take_70 ?_
        refine go_iload_n hC dX3_take_73 rfl 2 rfl ?_
        obtain ⟨g_27, hf⟩ := ga_e hf
        refine go_iald hC (b_8 _) g_27 dX3_take_74 ?_
        obtain ⟨g_28, hf⟩ := ga_e hf
        obtain ⟨h_29, eh_29, hf⟩ := lt_e hf
        refine go_iast hC (b_13 _) g_28 dX3_take_75 ?_
        refine go_toph eh_29 ?_
        refine go_aload_n hC dX3_take_76 rfl 0 rfl ?_
        refine go_getr hC (j := 6) (idx := 21) (nm := "drilled") (ds := "[I") (b_10 _) rfl rfl hn3 (Nat.le_of_ble_eq_true rfl) rfl rfl (List.mem_cons_of_mem _ (List.mem_append_left _ (List.mem_append_left _ (List.mem_append_left _ (List.mem_of_getElem? (i := 12) rfl))))) (Or.inl rfl) dX3_take_77 ?_
        refine go_iload_n hC dX3_take_80 rfl 2 rfl ?_
        refine go_aload_n hC dX3_take_81 rfl 1 rfl ?_
        refine go_getr hC (j := 3) (idx := 49) (nm := "drilled") (ds := "[I") (b_5 _) rfl rfl hn10 (Nat.le_of_ble_eq_true rfl) rfl rfl (List.mem_cons_of_mem _ (List.mem_append_left _ (List.mem_append_left _ (List.mem_append_left _ (List.mem_of_getElem? (i := 13) rfl))))) (Or.inl rfl) dX3_take_82 ?_
        refine go_iload_n hC dX3_take_85 rfl 2 rfl ?_
        obtain ⟨g_30, hf⟩ := ga_e hf
        refine go_iald hC (b_9 _) g_30 dX3_take_86 ?_
        obtain ⟨g_31, hf⟩ := ga_e hf
        obtain ⟨h_32, eh_32, hf⟩ := lt_e hf
        refine go_iast hC (b_14 _) g_31 dX3_take_87 ?_
        refine go_toph eh_32 ?_
        refine go_aload_n hC dX3_take_88 rfl 0 rfl ?_
        refine go_getr hC (j := 7) (idx := 24) (nm := "closed") (ds := "[Z") (b_10 _) rfl rfl hn3 (Nat.le_of_ble_eq_true rfl) rfl rfl (List.mem_cons_of_mem _ (List.mem_append_left _ (List.mem_append_left _ (List.mem_append_left _ (List.mem_of_getElem? (i := 14) rfl))))) (Or.inl rfl) dX3_take_89 ?_
        refine go_iload_n hC dX3_take_92 rfl 2 rfl ?_
        refine go_iconst hC dX3_take_93 k1_0 ?_
        obtain ⟨g_33, hf⟩ := ga_e hf
        obtain ⟨h_34, eh_34, hf⟩ := lt_e hf
        refine go_zast hC (b_15 _) g_33 (Or.inl rfl) dX3_take_94 ?_
        refine go_toph eh_34 ?_
        obtain ⟨x2_35, ex2_35, hf⟩ := lt_e hf
        refine go_iinc hC dX3_take_95 2 rfl k1_1 ex2_35 (Nat.le_of_ble_eq_true rfl) rfl ?_
        refine go_goto hC dX3_take_98 (tgt := 26) (by decide) ?_
        obtain rfl := so_1 hf
        refine go_sub [1, 2, 0] rfl ?_
        exact ih x2_35 h_34 _ (lp_c hy) hk
theorem e_X3_take : yX3_take.cls = RX3 ∧ yX3_take.cls ≠ "java/lang/invoke/MethodHandle" ∧ yX3_take.cls ≠ "java/lang/invoke/VarHandle" ∧ (parseMethodDescriptor yX3_take.desc).map (fun d => d.parameters.length) = some 1 := by decide +kernel
set_option maxRecDepth 100000 in
set_option maxHeartbeats 4000000 in
theorem c_X3_take (h : PH) (h2 : PH) (hf : f_X3_take h = some ((), h2)) : Con yX3_take wsX3_take (rm_d 2) l0_B [.ref 10, .ref 5] h none h2 := by
  have hn10 : ∀ w ∈ wsX100, w ∈ wsX3_take := (fun _ hw => (List.mem_cons_of_mem _ (List.mem_append_left _ (List.mem_append_right _ hw))))
  have hn3 : ∀ w ∈ wsX30, w ∈ wsX3_take := (fun _ hw => (List.mem_cons_of_mem _ (List.mem_append_right _ hw)))
  refine con_v (cc := cX3_take) (nL := 3) (by decide) rfl (Nat.le_of_ble_eq_true rfl) ?_
  intro C hC hret
  change Go l0_B C 0 0 0 [(0, .ref 10), (1, .ref 5)] [] h
  unfold f_X3_take at hf
  refine go_aload_n hC dX3_take_0 rfl 0 rfl ?_
  refine go_aload_n hC dX3_take_1 rfl 1 rfl ?_
  refine go_geti hC (j := 4) (idx := 31) (nm := "places") (ds := "I") (b_5 _) rfl rfl hn10 (Nat.le_of_ble_eq_true rfl) rfl rfl (List.mem_cons_of_mem _ (List.mem_append_left _ (List.mem_append_left _ (List.mem_append_left _ (List.mem_of_getElem? (i := 0) rfl))))) (Or.inl rfl) dX3_take_2 ?_
  obtain ⟨h_1, eh_1, hf⟩ := lt_e hf
  refine go_puti hC tyX3 (j := 0) (idx := 37) (nm := "places") (ds := "I") (b_10 _) rfl rfl hn3 tyX3_ok nmX3 (Nat.le_of_ble_eq_true rfl) rfl rfl (List.mem_cons_of_mem _ (List.mem_append_left _ (List.mem_append_left _ (List.mem_append_left _ (List.mem_of_getElem? (i := 1) rfl))))) (Or.inl rfl) rfl (tyX3_ok _ (Nat.le_of_ble_eq_true rfl)) dX3_take_5 ?_
  refine go_toph eh_1 ?_
  refine go_aload_n hC dX3_take_8 rfl 0 rfl ?_
  refine go_aload_n hC dX3_take_9 rfl 1 rfl ?_
  refine go_geti hC (j := 5) (idx := 38) (nm := "boxPlace") (ds := "I") (b_5 _) rfl rfl hn10 (Nat.le_of_ble_eq_true rfl) rfl rfl (List.mem_cons_of_mem _ (List.mem_append_left _ (List.mem_append_left _ (List.mem_append_left _ (List.mem_of_getElem? (i := 2) rfl))))) (Or.inl rfl) dX3_take_10 ?_
  obtain ⟨h_2, eh_2, hf⟩ := lt_e hf
  refine go_puti hC tyX3 (j := 1) (idx := 41) (nm := "boxPlace") (ds := "I") (b_10 _) rfl rfl hn3 tyX3_ok nmX3 (Nat.le_of_ble_eq_true rfl) rfl rfl (List.mem_cons_of_mem _ (List.mem_append_left _ (List.mem_append_left _ (List.mem_append_left _ (List.mem_of_getElem? (i := 3) rfl))))) (Or.inl rfl) rfl (tyX3_ok _ (Nat.le_of_ble_eq_true rfl)) dX3_take_13 ?_
  refine go_toph eh_2 ?_
  refine go_aload_n hC dX3_take_16 rfl 0 rfl ?_
  refine go_aload_n hC dX3_take_17 rfl 1 rfl ?_
  refine go_geti hC (j := 6) (idx := 42) (nm := "runs") (ds := "I") (b_5 _) rfl rfl hn10 (Nat.le_of_ble_eq_true rfl) rfl rfl (List.mem_cons_of_mem _ (List.mem_append_left _ (List.mem_append_left _ (List.mem_append_left _ (List.mem_of_getElem? (i := 4) rfl))))) (Or.inl rfl) dX3_take_18 ?_
  obtain ⟨h_3, eh_3, hf⟩ := lt_e hf
  refine go_puti hC tyX3 (j := 2) (idx := 45) (nm := "runs") (ds := "I") (b_10 _) rfl rfl hn3 tyX3_ok nmX3 (Nat.le_of_ble_eq_true rfl) rfl rfl (List.mem_cons_of_mem _ (List.mem_append_left _ (List.mem_append_left _ (List.mem_append_left _ (List.mem_of_getElem? (i := 5) rfl))))) (Or.inl rfl) rfl (tyX3_ok _ (Nat.le_of_ble_eq_true rfl)) dX3_take_21 ?_
  refine go_toph eh_3 ?_
  refine go_iconst hC dX3_take_24 k1_0 ?_
  refine go_istore_n hC dX3_take_25 rfl (Nat.le_of_ble_eq_true rfl) rfl ?_
  obtain ⟨s_38, hl, hf⟩ := bd_e1 hf
  refine go_sub [1, 2, 0] rfl ?_
  refine lw_X3_take_26 hC  _ 0 h_3 s_38 hl ?_
  refine go_aload_n hC dX3_take_101 rfl 0 rfl ?_
  obtain ⟨r_39, h_40, hc, hf⟩ := bd_e2 hf
  refine go_callV hC (c_X3_reckon s_38.2 h_40 hc) gX3_take_X3_reckon rfl ⟨rfl, rfl⟩ 0 e_X3_reckon ⟨Nat.le_of_ble_eq_true rfl, Nat.le_of_ble_eq_true rfl⟩ (b_10 _) rfl rfl (st := []) (st1 := []) rfl rfl (Nat.le_of_ble_eq_true rfl) ⟨Nat.zero_le _, Nat.zero_le _⟩ dX3_take_102 ?_
  obtain ⟨-, rfl⟩ := so_2 hf
  exact hret _ _ dX3_take_105
def f_X3_isPlace (x1 : Int32) (h : PH) : Option (Int32) :=
  if x1 < 0 then (
  some 0)
  else (
  if (h.1 10 0) ≤ x1 then (
  some 0)
  else (
  some 1))
theorem e_X3_isPlace : yX3_isPlace.cls = RX3 ∧ yX3_isPlace.cls ≠ "java/lang/invoke/MethodHandle" ∧ yX3_isPlace.cls ≠ "java/lang/invoke/VarHandle" ∧ (parseMethodDescriptor yX3_isPlace.desc).map (fun d => d.parameters.length) = some 1 := by decide +kernel
set_option maxRecDepth 100000 in
set_option maxHeartbeats 4000000 in
theorem c_X3_isPlace (x1 : Int32) (h : PH) (r : Int32) (hf : f_X3_isPlace x1 h = some r) : Con yX3_isPlace wsX3_isPlace (rm_d 0) l0_B [.ref 10, .int x1] h (some (.int r)) h := by
  have hn3 : ∀ w ∈ wsX30, w ∈ wsX3_isPlace := (fun _ hw => (List.mem_cons_of_mem _ (List.mem_append_right _ hw)))
  refine con_i (ty := .boolean) (cc := cX3_isPlace) (nL := 2) (by decide) rfl (Nat.le_of_ble_eq_true rfl) ?_
  intro C hC hret
  change Go l0_B C 0 0 0 [(0, .ref 10), (1, .int x1)] [] h
  unfold f_X3_isPlace at hf
  refine go_iload_n hC dX3_isPlace_0 rfl 1 rfl ?_
  refine go_if_lt hC dX3_isPlace_1 (tgt := 16) (by decide) (fun c_2 => ?_) (fun c_2 => ?_)
  · replace hf := if_t c_2 hf
    refine go_iconst hC dX3_isPlace_16 k1_0 ?_
    obtain rfl := so_1 hf
    exact hret _ _ (zo_n (Or.inl rfl)) dX3_isPlace_17
  · replace hf := if_f c_2 hf
    refine go_iload_n hC dX3_isPlace_4 rfl 1 rfl ?_
    refine go_aload_n hC dX3_isPlace_5 rfl 0 rfl ?_
    refine go_geti hC (j := 0) (idx := 37) (nm := "places") (ds := "I") (b_10 _) rfl rfl hn3 (Nat.le_of_ble_eq_true rfl) rfl rfl (List.mem_cons_of_mem _ (List.mem_append_left _ (List.mem_of_getElem? (i := 0) rfl))) (Or.inl rfl) dX3_isPlace_6 ?_
    refine go_icmp_ge hC dX3_isPlace_9 (tgt := 16) (by decide) (fun c_1 => ?_) (fun c_1 => ?_)
    · replace hf := if_t c_1 hf
      refine go_iconst hC dX3_isPlace_16 k1_0 ?_
      obtain rfl := so_1 hf
      exact hret _ _ (zo_n (Or.inl rfl)) dX3_isPlace_17
    · replace hf := if_f c_1 hf
      refine go_iconst hC dX3_isPlace_12 k1_1 ?_
      refine go_goto hC dX3_isPlace_13 (tgt := 17) (by decide) ?_
      obtain rfl := so_1 hf
      exact hret _ _ (zo_n (Or.inr rfl)) dX3_isPlace_17
def f_X3_isRun (x1 : Int32) (h : PH) : Option (Int32) :=
  if x1 < 0 then (
  some 0)
  else (
  if (h.1 10 2) ≤ x1 then (
  some 0)
  else (
  some 1))
theorem e_X3_isRun : yX3_isRun.cls = RX3 ∧ yX3_isRun.cls ≠ "java/lang/invoke/MethodHandle" ∧ yX3_isRun.cls ≠ "java/lang/invoke/VarHandle" ∧ (parseMethodDescriptor yX3_isRun.desc).map (fun d => d.parameters.length) = some 1 := by decide +kernel
set_option maxRecDepth 100000 in
set_option maxHeartbeats 4000000 in
theorem c_X3_isRun (x1 : Int32) (h : PH) (r : Int32) (hf : f_X3_isRun x1 h = some r) : Con yX3_isRun wsX3_isRun (rm_d 0) l0_B [.ref 10, .int x1] h (some (.int r)) h := by
  have hn3 : ∀ w ∈ wsX30, w ∈ wsX3_isRun := (fun _ hw => (List.mem_cons_of_mem _ (List.mem_append_right _ hw)))
  refine con_i (ty := .boolean) (cc := cX3_isRun) (nL := 2) (by decide) rfl (Nat.le_of_ble_eq_true rfl) ?_
  intro C hC hret
  change Go l0_B C 0 0 0 [(0, .ref 10), (1, .int x1)] [] h
  unfold f_X3_isRun at hf
  refine go_iload_n hC dX3_isRun_0 rfl 1 rfl ?_
  refine go_if_lt hC dX3_isRun_1 (tgt := 16) (by decide) (fun c_2 => ?_) (fun c_2 => ?_)
  · replace hf := if_t c_2 hf
    refine go_iconst hC dX3_isRun_16 k1_0 ?_
    obtain rfl := so_1 hf
    exact hret _ _ (zo_n (Or.inl rfl)) dX3_isRun_17
  · replace hf := if_f c_2 hf
    refine go_iload_n hC dX3_isRun_4 rfl 1 rfl ?_
    refine go_aload_n hC dX3_isRun_5 rfl 0 rfl ?_
    refine go_geti hC (j := 2) (idx := 45) (nm := "runs") (ds := "I") (b_10 _) rfl rfl hn3 (Nat.le_of_ble_eq_true rfl) rfl rfl (List.mem_cons_of_mem _ (List.mem_append_left _ (List.mem_of_getElem? (i := 0) rfl))) (Or.inl rfl) dX3_isRun_6 ?_
    refine go_icmp_ge hC dX3_isRun_9 (tgt := 16) (by decide) (fun c_1 => ?_) (fun c_1 => ?_)
    · replace hf := if_t c_1 hf
      refine go_iconst hC dX3_isRun_16 k1_0 ?_
      obtain rfl := so_1 hf
      exact hret _ _ (zo_n (Or.inl rfl)) dX3_isRun_17
    · replace hf := if_f c_1 hf
      refine go_iconst hC dX3_isRun_12 k1_1 ?_
      refine go_goto hC dX3_isRun_13 (tgt := 17) (by decide) ?_
      obtain rfl := so_1 hf
      exact hret _ _ (zo_n (Or.inr rfl)) dX3_isRun_17
def f_X3_close (x1 : Int32) (x2 : Int32) (h : PH) : Option (Unit × PH) :=
  ga_i x1 14 (
  gb_i x2 (
  lt_b (ph_i h 15 x1.toNatClampNeg x2) fun h_2 =>
  bd_2 (f_X3_reckon h_2) fun r_4 h_5 =>
  some ((), h_5)))
theorem e_X3_close : yX3_close.cls = RX3 ∧ yX3_close.cls ≠ "java/lang/invoke/MethodHandle" ∧ yX3_close.cls ≠ "java/lang/invoke/VarHandle" ∧ (parseMethodDescriptor yX3_close.desc).map (fun d => d.parameters.length) = some 2 := by decide +kernel
set_option maxRecDepth 100000 in
set_option maxHeartbeats 4000000 in
theorem c_X3_close (x1 : Int32) (x2 : Int32) (h : PH) (h2 : PH) (hf : f_X3_close x1 x2 h = some ((), h2)) : Con yX3_close wsX3_close (rm_d 2) l0_B [.ref 10, .int x1, .int x2] h none h2 := by
  have hn3 : ∀ w ∈ wsX30, w ∈ wsX3_close := (fun _ hw => (List.mem_cons_of_mem _ (List.mem_append_right _ hw)))
  refine con_v (cc := cX3_close) (nL := 3) (by decide) rfl (Nat.le_of_ble_eq_true rfl) ?_
  intro C hC hret
  change Go l0_B C 0 0 0 [(0, .ref 10), (1, .int x1), (2, .int x2)] [] h
  unfold f_X3_close at hf
  refine go_aload_n hC dX3_close_0 rfl 0 rfl ?_
  refine go_getr hC (j := 7) (idx := 24) (nm := "closed") (ds := "[Z") (b_10 _) rfl rfl hn3 (Nat.le_of_ble_eq_true rfl) rfl rfl (List.mem_cons_of_mem _ (List.mem_append_left _ (List.mem_of_getElem? (i := 0) rfl))) (Or.inl rfl) dX3_close_1 ?_
  refine go_iload_n hC dX3_close_4 rfl 1 rfl ?_
  refine go_iload_n hC dX3_close_5 rfl 2 rfl ?_
  obtain ⟨g_1, hf⟩ := ga_e hf
  obtain ⟨g_3, hf⟩ := gb_e hf
  obtain ⟨h_2, eh_2, hf⟩ := lt_e hf
  refine go_zast hC (b_15 _) g_1 g_3 dX3_close_6 ?_
  refine go_toph eh_2 ?_
  refine go_aload_n hC dX3_close_7 rfl 0 rfl ?_
  obtain ⟨r_4, h_5, hc, hf⟩ := bd_e2 hf
  refine go_callV hC (c_X3_reckon h_2 h_5 hc) gX3_close_X3_reckon rfl ⟨rfl, rfl⟩ 0 e_X3_reckon ⟨Nat.le_of_ble_eq_true rfl, Nat.le_of_ble_eq_true rfl⟩ (b_10 _) rfl rfl (st := []) (st1 := []) rfl rfl (Nat.le_of_ble_eq_true rfl) ⟨Nat.zero_le _, Nat.zero_le _⟩ dX3_close_8 ?_
  obtain ⟨-, rfl⟩ := so_2 hf
  exact hret _ _ dX3_close_11
def lb_X3_howManyClosed_4 (h : PH) (x1 : Int32) (x2 : Int32) : Option ((Int32 × Int32) ⊕ (Int32 × Int32)) :=
  if (h.1 10 2) ≤ x2 then (
  some (.inr (x1, x2)))
  else (
  ga_i x2 14 (
  if (h.1 15 x2.toNatClampNeg) = 0 then (
  lt_b (x1 + 0) fun x1_9 =>
  lt_b (x2 + 1) fun x2_10 =>
  some (.inl (x1_9, x2_10)))
  else (
  lt_b (x1 + 1) fun x1_11 =>
  lt_b (x2 + 1) fun x2_12 =>
  some (.inl (x1_11, x2_12)))))
def f_X3_howManyClosed (h : PH) : Option (Int32) :=
  bd_1 (lp_f (fun s => lb_X3_howManyClosed_4 h s.1 s.2) fu_l (0, 0)) fun s_15 =>
  some s_15.1
set_option maxRecDepth 100000 in
set_option maxHeartbeats 4000000 in
theorem lw_X3_howManyClosed_4 {C : GC} (hC : Cx C cX3_howManyClosed 3 wsX3_howManyClosed RX3 (some .int) (rm_d 0)) (h : PH) : ∀ (n9 : Nat) (x1 : Int32) (x2 : Int32) (y : Int32 × Int32), lp_f (fun s => lb_X3_howManyClosed_4 h s.1 s.2) n9 (x1, x2) = some y → ∀ (hk : Go l0_B C 0 0 35 [(1, .int y.1)] [] h), Go l0_B C 0 0 4 [(0, .ref 10), (1, .int x1), (2, .int x2)] [] h := by
  have hn3 : ∀ w ∈ wsX30, w ∈ wsX3_howManyClosed := (fun _ hw => (List.mem_cons_of_mem _ (List.mem_append_right _ hw)))
  intro n9
  induction n9 with
  | zero =>
    intro x1 x2 y hlp
    cases hlp
  | succ n9 ih =>
    intro x1 x2 y hlp hk
    obtain ⟨k9, z, hk9, hf, hy⟩ := lp_e hlp
    cases hk9
    replace hf : lb_X3_howManyClosed_4 h x1 x2 = some z := hf
    unfold lb_X3_howManyClosed_4 at hf
    refine go_iload_n hC dX3_howManyClosed_4 rfl 2 rfl ?_
    refine go_aload_n hC dX3_howManyClosed_5 rfl 0 rfl ?_
    refine go_geti hC (j := 2) (idx := 45) (nm := "runs") (ds := "I") (b_10 _) rfl rfl hn3 (Nat.le_of_ble_eq_true rfl) rfl rfl (List.mem_cons_of_mem _ (List.mem_append_left _ (List.mem_of_getElem? (i := 0) rfl))) (Or.inl rfl) dX3_howManyClosed_6 ?_
    refine go_icmp_ge hC dX3_howManyClosed_9 (tgt := 35) (by decide) (fun c_14 => ?_) (fun c_14 => ?_)
    · replace hf := if_t c_14 hf
      obtain rfl := so_1 hf
      obtain rfl := lp_x hy
      refine go_sub [1] rfl ?_
      exact hk
    · replace hf := if_f c_14 hf
      refine go_iload_n hC dX3_howManyClosed_12 rfl 1 rfl ?_
      refine go_aload_n hC dX3_howManyClosed_13 rfl 0 rfl ?_
      refine go_getr hC (j := 7) (idx := 24) (nm := "closed") (ds := "[Z") (b_10 _) rfl rfl hn3 (Nat.le_of_ble_eq_true rfl) rfl rfl (List.mem_cons_of_mem _ (List.mem_append_left _ (List.mem_of_getElem? (i := 1) rfl))) (Or.inl rfl) dX3_howManyClosed_14 ?_
      refine go_iload_n hC dX3_howManyClosed_17 rfl 2 rfl ?_
      obtain ⟨g_8, hf⟩ := ga_e hf
      refine go_zald hC (b_15 _) g_8 dX3_howManyClosed_18 ?_
      refine go_if_eq hC dX3_howManyClosed_19 (tgt := 26) (by decide) (fun c_13 => ?_) (fun c_13 => ?_)
      · replace hf := if_t c_13 hf
        refine go_iconst hC dX3_howManyClosed_26 k1_0 ?_
        refine go_iadd hC dX3_howManyClosed_27 ?_
        obtain ⟨x1_9, ex1_9, hf⟩ := lt_e hf
        refine go_topi ex1_9 ?_
        refine go_istore_n hC dX3_howManyClosed_28 rfl (Nat.le_of_ble_eq_true rfl) rfl ?_
        obtain ⟨x2_10, ex2_10, hf⟩ := lt_e hf
        refine go_iinc hC dX3_howManyClosed_29 2 rfl k1_1 ex2_10 (Nat.le_of_ble_eq_true rfl) rfl ?_
        refine go_goto hC dX3_howManyClosed_32 (tgt := 4) (by decide) ?_
        obtain rfl := so_1 hf
        refine go_sub [2, 1, 0] rfl ?_
        exact ih x1_9 x2_10 _ (lp_c hy) hk
      · replace hf := if_f c_13 hf
        refine go_iconst hC dX3_howManyClosed_22 k1_1 ?_
        refine go_goto hC dX3_howManyClosed_23 (tgt := 27) (by decide) ?_
        refine go_iadd hC dX3_howManyClosed_27 ?_
        obtain ⟨x1_11, ex1_11, hf⟩ := lt_e hf
        refine go_topi ex1_11 ?_
        refine go_istore_n hC dX3_howManyClosed_28 rfl (Nat.le_of_ble_eq_true rfl) rfl ?_
        obtain ⟨x2_12, ex2_12, hf⟩ := lt_e hf
        refine go_iinc hC dX3_howManyClosed_29 2 rfl k1_1 ex2_12 (Nat.le_of_ble_eq_true rfl) rfl ?_
        refine go_goto hC dX3_howManyClosed_32 (tgt := 4) (by decide) ?_
        obtain rfl := so_1 hf
        refine go_sub [2, 1, 0] rfl ?_
        exact ih x1_11 x2_12 _ (lp_c hy) hk
theorem e_X3_howManyClosed : yX3_howManyClosed.cls = RX3 ∧ yX3_howManyClosed.cls ≠ "java/lang/invoke/MethodHandle" ∧ yX3_howManyClosed.cls ≠ "java/lang/invoke/VarHandle" ∧ (parseMethodDescriptor yX3_howManyClosed.desc).map (fun d => d.parameters.length) = some 0 := by decide +kernel
set_option maxRecDepth 100000 in
set_option maxHeartbeats 4000000 in
theorem c_X3_howManyClosed (h : PH) (r : Int32) (hf : f_X3_howManyClosed h = some r) : Con yX3_howManyClosed wsX3_howManyClosed (rm_d 0) l0_B [.ref 10] h (some (.int r)) h := by
  have hn3 : ∀ w ∈ wsX30, w ∈ wsX3_howManyClosed := (fun _ hw => (List.mem_cons_of_mem _ (List.mem_append_right _ hw)))
  refine con_i (ty := .int) (cc := cX3_howManyClosed) (nL := 3) (by decide) rfl (Nat.le_of_ble_eq_true rfl) ?_
  intro C hC hret
  change Go l0_B C 0 0 0 [(0, .ref 10)] [] h
  unfold f_X3_howManyClosed at hf
  refine go_iconst hC dX3_howManyClosed_0 k1_0 ?_
  refine go_istore_n hC dX3_howManyClosed_1 rfl (Nat.le_of_ble_eq_true rfl) rfl ?_
  refine go_iconst hC dX3_howManyClosed_2 k1_0 ?_
  refine go_istore_n hC dX3_howManyClosed_3 rfl (Nat.le_of_ble_eq_true rfl) rfl ?_
  obtain ⟨s_15, hl, hf⟩ := bd_e1 hf
  refine go_sub [2, 1, 0] rfl ?_
  refine lw_X3_howManyClosed_4 hC h _ 0 0 s_15 hl ?_
  refine go_iload_n hC dX3_howManyClosed_35 rfl 0 rfl ?_
  obtain rfl := so_1 hf
  exact hret _ _ rfl dX3_howManyClosed_36
def f_X3_isJoined (x1 : Int32) (x2 : Int32) (h : PH) : Option (Int32) :=
  ga_i ((x1 * 8) + x2) 64 (
  if 1000000 ≤ (h.1 16 ((x1 * 8) + x2).toNatClampNeg) then (
  some 0)
  else (
  some 1))
theorem e_X3_isJoined : yX3_isJoined.cls = RX3 ∧ yX3_isJoined.cls ≠ "java/lang/invoke/MethodHandle" ∧ yX3_isJoined.cls ≠ "java/lang/invoke/VarHandle" ∧ (parseMethodDescriptor yX3_isJoined.desc).map (fun d => d.parameters.length) = some 2 := by decide +kernel
set_option maxRecDepth 100000 in
set_option maxHeartbeats 4000000 in
theorem c_X3_isJoined (x1 : Int32) (x2 : Int32) (h : PH) (r : Int32) (hf : f_X3_isJoined x1 x2 h = some r) : Con yX3_isJoined wsX3_isJoined (rm_d 0) l0_B [.ref 10, .int x1, .int x2] h (some (.int r)) h := by
  have hn3 : ∀ w ∈ wsX30, w ∈ wsX3_isJoined := (fun _ hw => (List.mem_cons_of_mem _ (List.mem_append_right _ hw)))
  refine con_i (ty := .boolean) (cc := cX3_isJoined) (nL := 3) (by decide) rfl (Nat.le_of_ble_eq_true rfl) ?_
  intro C hC hret
  change Go l0_B C 0 0 0 [(0, .ref 10), (1, .int x1), (2, .int x2)] [] h
  unfold f_X3_isJoined at hf
  refine go_aload_n hC dX3_isJoined_0 rfl 0 rfl ?_
  refine go_getr hC (j := 8) (idx := 28) (nm := "apart") (ds := "[I") (b_10 _) rfl rfl hn3 (Nat.le_of_ble_eq_true rfl) rfl rfl (List.mem_cons_of_mem _ (List.mem_append_left _ (List.mem_of_getElem? (i := 0) rfl))) (Or.inl rfl) dX3_isJoined_1 ?_
  refine go_iload_n hC dX3_isJoined_4 rfl 1 rfl ?_
  refine go_bipush hC dX3_isJoined_5 k8_8 ?_
  refine go_imul hC dX3_isJoined_7 ?_
  refine go_iload_n hC dX3_isJoined_8 rfl 2 rfl ?_
  refine go_iadd hC dX3_isJoined_9 ?_
  obtain ⟨g_1, hf⟩ := ga_e hf
  refine go_iald hC (b_16 _) g_1 dX3_isJoined_10 ?_
  refine go_ldc hC (v := 1000000) (List.mem_cons_of_mem _ (List.mem_append_left _ (List.mem_of_getElem? (i := 1) rfl))) dX3_isJoined_11 ?_
  refine go_icmp_ge hC dX3_isJoined_13 (tgt := 20) (by decide) (fun c_2 => ?_) (fun c_2 => ?_)
  · replace hf := if_t c_2 hf
    refine go_iconst hC dX3_isJoined_20 k1_0 ?_
    obtain rfl := so_1 hf
    exact hret _ _ (zo_n (Or.inl rfl)) dX3_isJoined_21
  · replace hf := if_f c_2 hf
    refine go_iconst hC dX3_isJoined_16 k1_1 ?_
    refine go_goto hC dX3_isJoined_17 (tgt := 21) (by decide) ?_
    obtain rfl := so_1 hf
    exact hret _ _ (zo_n (Or.inr rfl)) dX3_isJoined_21
def f_X3_otherEnd (x1 : Int32) (x2 : Int32) (h : PH) : Option (Int32) :=
  ga_i x1 14 (
  if (h.1 11 x1.toNatClampNeg) = x2 then (
  ga_i x1 14 (
  some (h.1 12 x1.toNatClampNeg)))
  else (
  ga_i x1 14 (
  some (h.1 11 x1.toNatClampNeg))))
theorem e_X3_otherEnd : yX3_otherEnd.cls = RX3 ∧ yX3_otherEnd.cls ≠ "java/lang/invoke/MethodHandle" ∧ yX3_otherEnd.cls ≠ "java/lang/invoke/VarHandle" ∧ (parseMethodDescriptor yX3_otherEnd.desc).map (fun d => d.parameters.length) = some 2 := by decide +kernel
set_option maxRecDepth 100000 in
set_option maxHeartbeats 4000000 in
theorem c_X3_otherEnd (x1 : Int32) (x2 : Int32) (h : PH) (r : Int32) (hf : f_X3_otherEnd x1 x2 h = some r) : Con yX3_otherEnd wsX3_otherEnd (rm_d 0) l0_B [.ref 10, .int x1, .int x2] h (some (.int r)) h := by
  have hn3 : ∀ w ∈ wsX30, w ∈ wsX3_otherEnd := (fun _ hw => (List.mem_cons_of_mem _ (List.mem_append_right _ hw)))
  refine con_i (ty := .int) (cc := cX3_otherEnd) (nL := 3) (by decide) rfl (Nat.le_of_ble_eq_true rfl) ?_
  intro C hC hret
  change Go l0_B C 0 0 0 [(0, .ref 10), (1, .int x1), (2, .int x2)] [] h
  unfold f_X3_otherEnd at hf
  refine go_aload_n hC dX3_otherEnd_0 rfl 0 rfl ?_
  refine go_getr hC (j := 3) (idx := 9) (nm := "from") (ds := "[I") (b_10 _) rfl rfl hn3 (Nat.le_of_ble_eq_true rfl) rfl rfl (List.mem_cons_of_mem _ (List.mem_append_left _ (List.mem_of_getElem? (i := 0) rfl))) (Or.inl rfl) dX3_otherEnd_1 ?_
  refine go_iload_n hC dX3_otherEnd_4 rfl 1 rfl ?_
  obtain ⟨g_1, hf⟩ := ga_e hf
  refine go_iald hC (b_11 _) g_1 dX3_otherEnd_5 ?_
  refine go_iload_n hC dX3_otherEnd_6 rfl 2 rfl ?_
  refine go_icmp_ne hC dX3_otherEnd_7 (tgt := 19) (by decide) (fun c_4 => ?_) (fun c_4 => ?_)
  · replace hf := if_f c_4 hf
    refine go_aload_n hC dX3_otherEnd_19 rfl 0 rfl ?_
    refine go_getr hC (j := 3) (idx := 9) (nm := "from") (ds := "[I") (b_10 _) rfl rfl hn3 (Nat.le_of_ble_eq_true rfl) rfl rfl (List.mem_cons_of_mem _ (List.mem_append_left _ (List.mem_of_getElem? (i := 0) rfl))) (Or.inl rfl) dX3_otherEnd_20 ?_
    refine go_iload_n hC dX3_otherEnd_23 rfl 1 rfl ?_
    obtain ⟨g_2, hf⟩ := ga_e hf
    refine go_iald hC (b_11 _) g_2 dX3_otherEnd_24 ?_
    obtain rfl := so_1 hf
    exact hret _ _ rfl dX3_otherEnd_25
  · replace hf := if_t c_4 hf
    refine go_aload_n hC dX3_otherEnd_10 rfl 0 rfl ?_
    refine go_getr hC (j := 4) (idx := 15) (nm := "to") (ds := "[I") (b_10 _) rfl rfl hn3 (Nat.le_of_ble_eq_true rfl) rfl rfl (List.mem_cons_of_mem _ (List.mem_append_left _ (List.mem_of_getElem? (i := 1) rfl))) (Or.inl rfl) dX3_otherEnd_11 ?_
    refine go_iload_n hC dX3_otherEnd_14 rfl 1 rfl ?_
    obtain ⟨g_3, hf⟩ := ga_e hf
    refine go_iald hC (b_12 _) g_3 dX3_otherEnd_15 ?_
    refine go_goto hC dX3_otherEnd_16 (tgt := 25) (by decide) ?_
    obtain rfl := so_1 hf
    exact hret _ _ rfl dX3_otherEnd_25
def lb_X3_firstStep_29 (x1 : Int32) (x2 : Int32) (x3 : Int32) (h : PH) (x4 : Int32) : Option ((Int32) ⊕ ((Int32) ⊕ (Int32))) :=
  if (h.1 10 2) ≤ x4 then (
  some (.inr (.inr x4)))
  else (
  ga_i x4 14 (
  if (h.1 15 x4.toNatClampNeg) = 0 then (
  ga_i x4 14 (
  if (h.1 11 x4.toNatClampNeg) = x1 then (
  bd_1 (f_X3_length x4 h) fun r_25 =>
  bd_1 (f_X3_otherEnd x4 x1 h) fun r_26 =>
  ga_i ((r_26 * 8) + x2) 64 (
  if (r_25 + (h.1 16 ((r_26 * 8) + x2).toNatClampNeg)) = x3 then (
  some (.inr (.inl x4)))
  else (
  lt_b (x4 + 1) fun x4_28 =>
  some (.inl x4_28))))
  else (
  ga_i x4 14 (
  if (h.1 12 x4.toNatClampNeg) = x1 then (
  bd_1 (f_X3_length x4 h) fun r_32 =>
  bd_1 (f_X3_otherEnd x4 x1 h) fun r_33 =>
  ga_i ((r_33 * 8) + x2) 64 (
  if (r_32 + (h.1 16 ((r_33 * 8) + x2).toNatClampNeg)) = x3 then (
  some (.inr (.inl x4)))
  else (
  lt_b (x4 + 1) fun x4_35 =>
  some (.inl x4_35))))
  else (
  lt_b (x4 + 1) fun x4_31 =>
  some (.inl x4_31))))))
  else (
  lt_b (x4 + 1) fun x4_23 =>
  some (.inl x4_23))))
def f_X3_firstStep (x1 : Int32) (x2 : Int32) (h : PH) : Option (Int32) :=
  ga_i ((x1 * 8) + x2) 64 (
  lt_b (h.1 16 ((x1 * 8) + x2).toNatClampNeg) fun x3_2 =>
  if x1 = x2 then (
  some (-9))
  else (
  if x3_2 < 1000000 then (
  bd_1 (lp_f (fun s => lb_X3_firstStep_29 x1 x2 x3_2 h s) fu_l 0) fun s_41 => sw_b s_41 (fun r_43 => some r_43) fun e_42 =>
  some (-9))
  else (
  some (-9))))
set_option maxRecDepth 100000 in
set_option maxHeartbeats 4000000 in
theorem lw_X3_firstStep_29 {C : GC} (hC : Cx C cX3_firstStep 5 wsX3_firstStep RX3 (some .int) (rm_d 1)) (x1 : Int32) (x2 : Int32) (x3 : Int32) (h : PH) : ∀ (n9 : Nat) (x4 : Int32) (y : (Int32) ⊕ (Int32)), lp_f (fun s => lb_X3_firstStep_29 x1 x2 x3 h s) n9 x4 = some y → ∀ (hk : match y with | .inl r => (∀ (pc : Nat) (L : List (Nat × Value)), narrow .int (.int r) = .int r → decode cX3_firstStep pc = .ok (.ireturn, 1) → Go l0_B C 0 0 pc L [.int r] h) | .inr e => Go l0_B C 0 0 107 [] [] h), Go l0_B C 0 0 29 [(0, .ref 10), (1, .int x1), (2, .int x2), (3, .int x3), (4, .int x4)] [] h := by
  have hn3 : ∀ w ∈ wsX30, w ∈ wsX3_firstStep := (fun _ hw => (List.mem_cons_of_mem _ (List.mem_append_right _ hw)))
  intro n9
  induction n9 with
  | zero =>
    intro x4 y hlp
    cases hlp
  | succ n9 ih =>
    intro x4 y hlp hk
    obtain ⟨k9, z, hk9, hf, hy⟩ := lp_e hlp
    cases hk9
    replace hf : lb_X3_firstStep_29 x1 x2 x3 h x4 = some z := hf
    unfold lb_X3_firstStep_29 at hf
    refine go_iload hC dX3_firstStep_29 4 rfl ?_
    refine go_aload_n hC dX3_firstStep_31 rfl 0 rfl ?_
    refine go_geti hC (j := 2) (idx := 45) (nm := "runs") (ds := "I") (b_10 _) rfl rfl hn3 (Nat.le_of_ble_eq_true rfl) rfl rfl (List.mem_cons_of_mem _ (List.mem_append_left _ (List.mem_of_getElem? (i := 2) rfl))) (Or.inl rfl) dX3_firstStep_32 ?_
    refine go_icmp_ge hC dX3_firstStep_35 (tgt := 107) (by decide) (fun c_40 => ?_) (fun c_40 => ?_)
    · replace hf := if_t c_40 hf
      obtain rfl := so_1 hf
      obtain rfl := lp_x hy
      refine go_sub [] rfl ?_
      exact hk
    · replace hf := if_f c_40 hf
      refine go_aload_n hC dX3_firstStep_38 rfl 0 rfl ?_
      refine go_getr hC (j := 7) (idx := 24) (nm := "closed") (ds := "[Z") (b_10 _) rfl rfl hn3 (Nat.le_of_ble_eq_true rfl) rfl rfl (List.mem_cons_of_mem _ (List.mem_append_left _ (List.mem_of_getElem? (i := 3) rfl))) (Or.inl rfl) dX3_firstStep_39 ?_
      refine go_iload hC dX3_firstStep_42 4 rfl ?_
      obtain ⟨g_22, hf⟩ := ga_e hf
      refine go_zald hC (b_15 _) g_22 dX3_firstStep_44 ?_
      refine go_if_ne hC dX3_firstStep_45 (tgt := 101) (by decide) (fun c_39 => ?_) (fun c_39 => ?_)
      · replace hf := if_f c_39 hf
        obtain ⟨x4_23, ex4_23, hf⟩ := lt_e hf
        refine go_iinc hC dX3_firstStep_101 4 rfl k1_1 ex4_23 (Nat.le_of_ble_eq_true rfl) rfl ?_
        refine go_goto hC dX3_firstStep_104 (tgt := 29) (by decide) ?_
        obtain rfl := so_1 hf
        refine go_sub [1, 2, 3, 4, 0] rfl ?_
        exact ih x4_23 _ (lp_c hy) hk
      · replace hf := if_t c_39 hf
        refine go_aload_n hC dX3_firstStep_48 rfl 0 rfl ?_
        refine go_getr hC (j := 3) (idx := 9) (nm := "from") (ds := "[I") (b_10 _) rfl rfl hn3 (Nat.le_of_ble_eq_true rfl) rfl rfl (List.mem_cons_of_mem _ (List.mem_append_left _ (List.mem_of_getElem? (i := 4) rfl))) (Or.inl rfl) dX3_firstStep_49 ?_
        refine go_iload hC dX3_firstStep_52 4 rfl ?_
        obtain ⟨g_24, hf⟩ := ga_e hf
        refine go_iald hC (b_11 _) g_24 dX3_firstStep_54 ?_
        refine go_iload_n hC dX3_firstStep_55 rfl 1 rfl ?_
        refine go_icmp_eq hC dX3_firstStep_56 (tgt := 70) (by decide) (fun c_38 => ?_) (fun c_38 => ?_)
        · replace hf := if_t c_38 hf
          refine go_aload_n hC dX3_firstStep_70 rfl 0 rfl ?_
          refine go_iload hC dX3_firstStep_71 4 rfl ?_
          obtain ⟨r_25, hc, hf⟩ := bd_e1 hf
          refine go_callV hC (c_X3_length x4 h r_25 hc) gX3_firstStep_X3_length rfl ⟨rfl, rfl⟩ 1 e_X3_length ⟨Nat.le_of_ble_eq_true rfl, Nat.le_of_ble_eq_true rfl⟩ (b_10 _) rfl rfl (st := []) (st1 := [.int r_25]) rfl rfl (Nat.le_of_ble_eq_true rfl) ⟨Nat.zero_le _, Nat.zero_le _⟩ dX3_firstStep_73 ?_
          refine go_aload_n hC dX3_firstStep_76 rfl 0 rfl ?_
          refine go_getr hC (j := 8) (idx := 28) (nm := "apart") (ds := "[I") (b_10 _) rfl rfl hn3 (Nat.le_of_ble_eq_true rfl) rfl rfl (List.mem_cons_of_mem _ (List.mem_append_left _ (List.mem_of_getElem? (i := 0) rfl))) (Or.inl rfl) dX3_firstStep_77 ?_
          refine go_aload_n hC dX3_firstStep_80 rfl 0 rfl ?_
          refine go_iload hC dX3_firstStep_81 4 rfl ?_
          refine go_iload_n hC dX3_firstStep_83 rfl 1 rfl ?_
          obtain ⟨r_26, hc, hf⟩ := bd_e1 hf
          refine go_callV hC (c_X3_otherEnd x4 x1 h r_26 hc) gX3_firstStep_X3_otherEnd rfl ⟨rfl, rfl⟩ 2 e_X3_otherEnd ⟨Nat.le_of_ble_eq_true rfl, Nat.le_of_ble_eq_true rfl⟩ (b_10 _) rfl rfl (st := [.ref 16, .int r_25]) (st1 := [.int r_26, .ref 16, .int r_25]) rfl rfl (Nat.le_of_ble_eq_true rfl) ⟨Nat.zero_le _, Nat.zero_le _⟩ dX3_firstStep_84 ?_
          refine go_bipush hC dX3_firstStep_87 k8_8 ?_
          refine go_imul hC dX3_firstStep_89 ?_
          refine go_iload_n hC dX3_firstStep_90 rfl 2 rfl ?_
          refine go_iadd hC dX3_firstStep_91 ?_
          obtain ⟨g_27, hf⟩ := ga_e hf
          refine go_iald hC (b_16 _) g_27 dX3_firstStep_92 ?_
          refine go_iadd hC dX3_firstStep_93 ?_
          refine go_iload_n hC dX3_firstStep_94 rfl 3 rfl ?_
          refine go_icmp_ne hC dX3_firstStep_95 (tgt := 101) (by decide) (fun c_29 => ?_) (fun c_29 => ?_)
          · replace hf := if_f c_29 hf
            obtain ⟨x4_28, ex4_28, hf⟩ := lt_e hf
            refine go_iinc hC dX3_firstStep_101 4 rfl k1_1 ex4_28 (Nat.le_of_ble_eq_true rfl) rfl ?_
            refine go_goto hC dX3_firstStep_104 (tgt := 29) (by decide) ?_
            obtain rfl := so_1 hf
            refine go_sub [1, 2, 3, 4, 0] rfl ?_
            exact ih x4_28 _ (lp_c hy) hk
          · replace hf := if_t c_29 hf
            refine go_iload hC dX3_firstStep_98 4 rfl ?_
            obtain rfl := so_1 hf
            obtain rfl := lp_x hy
            exact hk _ _ rfl dX3_firstStep_100
        · replace hf := if_f c_38 hf
          refine go_aload_n hC dX3_firstStep_59 rfl 0 rfl ?_
          refine go_getr hC (j := 4) (idx := 15) (nm := "to") (ds := "[I") (b_10 _) rfl rfl hn3 (Nat.le_of_ble_eq_true rfl) rfl rfl (List.mem_cons_of_mem _ (List.mem_append_left _ (List.mem_of_getElem? (i := 5) rfl))) (Or.inl rfl) dX3_firstStep_60 ?_
          refine go_iload hC dX3_firstStep_63 4 rfl ?_
          obtain ⟨g_30, hf⟩ := ga_e hf
          refine go_iald hC (b_12 _) g_30 dX3_firstStep_65 ?_
          refine go_iload_n hC dX3_firstStep_66 rfl 1 rfl ?_
          refine go_icmp_ne hC dX3_firstStep_67 (tgt := 101) (by decide) (fun c_37 => ?_) (fun c_37 => ?_)
          · replace hf := if_f c_37 hf
            obtain ⟨x4_31, ex4_31, hf⟩ := lt_e hf
            refine go_iinc hC dX3_firstStep_101 4 rfl k1_1 ex4_31 (Nat.le_of_ble_eq_true rfl) rfl ?_
            refine go_goto hC dX3_firstStep_104 (tgt := 29) (by decide) ?_
            obtain rfl := so_1 hf
            refine go_sub [1, 2, 3, 4, 0] rfl ?_
            exact ih x4_31 _ (lp_c hy) hk
          · replace hf := if_t c_37 hf
            refine go_aload_n hC dX3_firstStep_70 rfl 0 rfl ?_
            refine go_iload hC dX3_firstStep_71 4 rfl ?_
            obtain ⟨r_32, hc, hf⟩ := bd_e1 hf
            refine go_callV hC (c_X3_length x4 h r_32 hc) gX3_firstStep_X3_length rfl ⟨rfl, rfl⟩ 1 e_X3_length ⟨Nat.le_of_ble_eq_true rfl, Nat.le_of_ble_eq_true rfl⟩ (b_10 _) rfl rfl (st := []) (st1 := [.int r_32]) rfl rfl (Nat.le_of_ble_eq_true rfl) ⟨Nat.zero_le _, Nat.zero_le _⟩ dX3_firstStep_73 ?_
            refine go_aload_n hC dX3_firstStep_76 rfl 0 rfl ?_
            refine go_getr hC (j := 8) (idx := 28) (nm := "apart") (ds := "[I") (b_10 _) rfl rfl hn3 (Nat.le_of_ble_eq_true rfl) rfl rfl (List.mem_cons_of_mem _ (List.mem_append_left _ (List.mem_of_getElem? (i := 0) rfl))) (Or.inl rfl) dX3_firstStep_77 ?_
            refine go_aload_n hC dX3_firstStep_80 rfl 0 rfl ?_
            refine go_iload hC dX3_firstStep_81 4 rfl ?_
            refine go_iload_n hC dX3_firstStep_83 rfl 1 rfl ?_
            obtain ⟨r_33, hc, hf⟩ := bd_e1 hf
            refine go_callV hC (c_X3_otherEnd x4 x1 h r_33 hc) gX3_firstStep_X3_otherEnd rfl ⟨rfl, rfl⟩ 2 e_X3_otherEnd ⟨Nat.le_of_ble_eq_true rfl, Nat.le_of_ble_eq_true rfl⟩ (b_10 _) rfl rfl (st := [.ref 16, .int r_32]) (st1 := [.int r_33, .ref 16, .int r_32]) rfl rfl (Nat.le_of_ble_eq_true rfl) ⟨Nat.zero_le _, Nat.zero_le _⟩ dX3_firstStep_84 ?_
            refine go_bipush hC dX3_firstStep_87 k8_8 ?_
            refine go_imul hC dX3_firstStep_89 ?_
            refine go_iload_n hC dX3_firstStep_90 rfl 2 rfl ?_
            refine go_iadd hC dX3_firstStep_91 ?_
            obtain ⟨g_34, hf⟩ := ga_e hf
            refine go_iald hC (b_16 _) g_34 dX3_firstStep_92 ?_
            refine go_iadd hC dX3_firstStep_93 ?_
            refine go_iload_n hC dX3_firstStep_94 rfl 3 rfl ?_
            refine go_icmp_ne hC dX3_firstStep_95 (tgt := 101) (by decide) (fun c_36 => ?_) (fun c_36 => ?_)
            · replace hf := if_f c_36 hf
              obtain ⟨x4_35, ex4_35, hf⟩ := lt_e hf
              refine go_iinc hC dX3_firstStep_101 4 rfl k1_1 ex4_35 (Nat.le_of_ble_eq_true rfl) rfl ?_
              refine go_goto hC dX3_firstStep_104 (tgt := 29) (by decide) ?_
              obtain rfl := so_1 hf
              refine go_sub [1, 2, 3, 4, 0] rfl ?_
              exact ih x4_35 _ (lp_c hy) hk
            · replace hf := if_t c_36 hf
              refine go_iload hC dX3_firstStep_98 4 rfl ?_
              obtain rfl := so_1 hf
              obtain rfl := lp_x hy
              exact hk _ _ rfl dX3_firstStep_100
theorem e_X3_firstStep : yX3_firstStep.cls = RX3 ∧ yX3_firstStep.cls ≠ "java/lang/invoke/MethodHandle" ∧ yX3_firstStep.cls ≠ "java/lang/invoke/VarHandle" ∧ (parseMethodDescriptor yX3_firstStep.desc).map (fun d => d.parameters.length) = some 2 := by decide +kernel
set_option maxRecDepth 100000 in
set_option maxHeartbeats 4000000 in
theorem c_X3_firstStep (x1 : Int32) (x2 : Int32) (h : PH) (r : Int32) (hf : f_X3_firstStep x1 x2 h = some r) : Con yX3_firstStep wsX3_firstStep (rm_d 1) l0_B [.ref 10, .int x1, .int x2] h (some (.int r)) h := by
  have hn3 : ∀ w ∈ wsX30, w ∈ wsX3_firstStep := (fun _ hw => (List.mem_cons_of_mem _ (List.mem_append_right _ hw)))
  refine con_i (ty := .int) (cc := cX3_firstStep) (nL := 5) (by decide) rfl (Nat.le_of_ble_eq_true rfl) ?_
  intro C hC hret
  change Go l0_B C 0 0 0 [(0, .ref 10), (1, .int x1), (2, .int x2)] [] h
  unfold f_X3_firstStep at hf
  refine go_aload_n hC dX3_firstStep_0 rfl 0 rfl ?_
  refine go_getr hC (j := 8) (idx := 28) (nm := "apart") (ds := "[I") (b_10 _) rfl rfl hn3 (Nat.le_of_ble_eq_true rfl) rfl rfl (List.mem_cons_of_mem _ (List.mem_append_left _ (List.mem_of_getElem? (i := 0) rfl))) (Or.inl rfl) dX3_firstStep_1 ?_
  refine go_iload_n hC dX3_firstStep_4 rfl 1 rfl ?_
  refine go_bipush hC dX3_firstStep_5 k8_8 ?_
  refine go_imul hC dX3_firstStep_7 ?_
  refine go_iload_n hC dX3_firstStep_8 rfl 2 rfl ?_
  refine go_iadd hC dX3_firstStep_9 ?_
  obtain ⟨g_1, hf⟩ := ga_e hf
  refine go_iald hC (b_16 _) g_1 dX3_firstStep_10 ?_
  obtain ⟨x3_2, ex3_2, hf⟩ := lt_e hf
  refine go_topi ex3_2 ?_
  refine go_istore_n hC dX3_firstStep_11 rfl (Nat.le_of_ble_eq_true rfl) rfl ?_
  refine go_iload_n hC dX3_firstStep_12 rfl 2 rfl ?_
  refine go_iload_n hC dX3_firstStep_13 rfl 3 rfl ?_
  refine go_icmp_eq hC dX3_firstStep_14 (tgt := 23) (by decide) (fun c_45 => ?_) (fun c_45 => ?_)
  · replace hf := if_t c_45 hf
    refine go_bipush hC dX3_firstStep_23 k8_m9 ?_
    obtain rfl := so_1 hf
    exact hret _ _ rfl dX3_firstStep_25
  · replace hf := if_f c_45 hf
    refine go_iload_n hC dX3_firstStep_17 rfl 0 rfl ?_
    refine go_ldc hC (v := 1000000) (List.mem_cons_of_mem _ (List.mem_append_left _ (List.mem_of_getElem? (i := 1) rfl))) dX3_firstStep_18 ?_
    refine go_icmp_lt hC dX3_firstStep_20 (tgt := 26) (by decide) (fun c_44 => ?_) (fun c_44 => ?_)
    · replace hf := if_t c_44 hf
      refine go_iconst hC dX3_firstStep_26 k1_0 ?_
      refine go_istore hC dX3_firstStep_27 (Nat.le_of_ble_eq_true rfl) rfl ?_
      obtain ⟨s_41, hl, hf⟩ := bd_e1 hf
      refine go_sub [2, 3, 4, 1, 0] rfl ?_
      refine lw_X3_firstStep_29 hC x1 x2 x3_2 h _ 0 s_41 hl ?_
      rcases s_41 with r_43 | e_42
      · replace hf : some r_43 = some _ := hf
        cases hf
        exact hret
      · replace hf := sw_r hf
        refine go_bipush hC dX3_firstStep_107 k8_m9 ?_
        obtain rfl := so_1 hf
        exact hret _ _ rfl dX3_firstStep_109
    · replace hf := if_f c_44 hf
      refine go_bipush hC dX3_firstStep_23 k8_m9 ?_
      obtain rfl := so_1 hf
      exact hret _ _ rfl dX3_firstStep_25
def lb_X3_stepsFrom_5 (x2 : Int32) (h : PH) (x3 : Int32) (x4 : Int32) : Option ((Int32 × Int32) ⊕ ((Int32) ⊕ (Int32 × Int32))) :=
  if x4 = x2 then (
  some (.inr (.inr (x3, x4))))
  else (
  if 8 ≤ x3 then (
  some (.inr (.inr (x3, x4))))
  else (
  bd_1 (f_X3_firstStep x4 x2 h) fun r_7 =>
  if r_7 = (-9) then (
  some (.inr (.inl x3)))
  else (
  bd_1 (f_X3_otherEnd r_7 x4 h) fun r_8 =>
  lt_b (x3 + 1) fun x3_9 =>
  some (.inl (x3_9, r_8)))))
def f_X3_stepsFrom (x1 : Int32) (x2 : Int32) (h : PH) : Option (Int32) :=
  bd_1 (lp_f (fun s => lb_X3_stepsFrom_5 x2 h s.1 s.2) fu_l (0, x1)) fun s_13 => sw_b s_13 (fun r_15 => some r_15) fun e_14 =>
  some e_14.1
set_option maxRecDepth 100000 in
set_option maxHeartbeats 4000000 in
theorem lw_X3_stepsFrom_5 {C : GC} (hC : Cx C cX3_stepsFrom 6 wsX3_stepsFrom RX3 (some .int) (rm_d 2)) (x2 : Int32) (h : PH) : ∀ (n9 : Nat) (x3 : Int32) (x4 : Int32) (y : (Int32) ⊕ (Int32 × Int32)), lp_f (fun s => lb_X3_stepsFrom_5 x2 h s.1 s.2) n9 (x3, x4) = some y → ∀ (hk : match y with | .inl r => (∀ (pc : Nat) (L : List (Nat × Value)), narrow .int (.int r) = .int r → decode cX3_stepsFrom pc = .ok (.ireturn, 1) → Go l0_B C 0 0 pc L [.int r] h) | .inr e => Go l0_B C 0 0 51 [(3, .int e.1)] [] h), Go l0_B C 0 0 5 [(0, .ref 10), (2, .int x2), (3, .int x3), (4, .int x4)] [] h := by

  intro n9
  induction n9 with
  | zero =>
    intro x3 x4 y hlp
    cases hlp
  | succ n9 ih =>
    intro x3 x4 y hlp hk
    obtain ⟨k9, z, hk9, hf, hy⟩ := lp_e hlp
    cases hk9
    replace hf : lb_X3_stepsFrom_5 x2 h x3 x4 = some z := hf
    unfold lb_X3_stepsFrom_5 at hf
    refine go_iload hC dX3_stepsFrom_5 3 rfl ?_
    refine go_iload_n hC dX3_stepsFrom_7 rfl 1 rfl ?_
    refine go_icmp_eq hC dX3_stepsFrom_8 (tgt := 51) (by decide) (fun c_12 => ?_) (fun c_12 => ?_)
    · replace hf := if_t c_12 hf
      obtain rfl := so_1 hf
      obtain rfl := lp_x hy
      refine go_sub [2] rfl ?_
      exact hk
    · replace hf := if_f c_12 hf
      refine go_iload_n hC dX3_stepsFrom_11 rfl 2 rfl ?_
      refine go_bipush hC dX3_stepsFrom_12 k8_8 ?_
      refine go_icmp_ge hC dX3_stepsFrom_14 (tgt := 51) (by decide) (fun c_11 => ?_) (fun c_11 => ?_)
      · replace hf := if_t c_11 hf
        obtain rfl := so_1 hf
        obtain rfl := lp_x hy
        refine go_sub [2] rfl ?_
        exact hk
      · replace hf := if_f c_11 hf
        refine go_aload_n hC dX3_stepsFrom_17 rfl 0 rfl ?_
        refine go_iload hC dX3_stepsFrom_18 3 rfl ?_
        refine go_iload_n hC dX3_stepsFrom_20 rfl 1 rfl ?_
        obtain ⟨r_7, hc, hf⟩ := bd_e1 hf
        refine go_callV hC (c_X3_firstStep x4 x2 h r_7 hc) gX3_stepsFrom_X3_firstStep rfl ⟨rfl, rfl⟩ 2 e_X3_firstStep ⟨Nat.le_of_ble_eq_true rfl, Nat.le_of_ble_eq_true rfl⟩ (b_10 _) rfl rfl (st := []) (st1 := [.int r_7]) rfl rfl (Nat.le_of_ble_eq_true rfl) ⟨Nat.zero_le _, Nat.zero_le _⟩ dX3_stepsFrom_21 ?_
        refine go_istore hC dX3_stepsFrom_24 (Nat.le_of_ble_eq_true rfl) rfl ?_
        refine go_iload hC dX3_stepsFrom_26 0 rfl ?_
        refine go_bipush hC dX3_stepsFrom_28 k8_m9 ?_
        refine go_icmp_ne hC dX3_stepsFrom_30 (tgt := 35) (by decide) (fun c_10 => ?_) (fun c_10 => ?_)
        · replace hf := if_f c_10 hf
          refine go_aload_n hC dX3_stepsFrom_35 rfl 1 rfl ?_
          refine go_iload hC dX3_stepsFrom_36 0 rfl ?_
          refine go_iload hC dX3_stepsFrom_38 4 rfl ?_
          obtain ⟨r_8, hc, hf⟩ := bd_e1 hf
          refine go_callV hC (c_X3_otherEnd r_7 x4 h r_8 hc) gX3_stepsFrom_X3_otherEnd rfl ⟨rfl, rfl⟩ 2 e_X3_otherEnd ⟨Nat.le_of_ble_eq_true rfl, Nat.le_of_ble_eq_true rfl⟩ (b_10 _) rfl rfl (st := []) (st1 := [.int r_8]) rfl rfl (Nat.le_of_ble_eq_true rfl) ⟨Nat.zero_le _, Nat.zero_le _⟩ dX3_stepsFrom_40 ?_
          refine go_istore hC dX3_stepsFrom_43 (Nat.le_of_ble_eq_true rfl) rfl ?_
          obtain ⟨x3_9, ex3_9, hf⟩ := lt_e hf
          refine go_iinc hC dX3_stepsFrom_45 4 rfl k1_1 ex3_9 (Nat.le_of_ble_eq_true rfl) rfl ?_
          refine go_goto hC dX3_stepsFrom_48 (tgt := 5) (by decide) ?_
          obtain rfl := so_1 hf
          refine go_sub [3, 4, 0, 1] rfl ?_
          exact ih x3_9 r_8 _ (lp_c hy) hk
        · replace hf := if_t c_10 hf
          refine go_iload_n hC dX3_stepsFrom_33 rfl 3 rfl ?_
          obtain rfl := so_1 hf
          obtain rfl := lp_x hy
          exact hk _ _ rfl dX3_stepsFrom_34
theorem e_X3_stepsFrom : yX3_stepsFrom.cls = RX3 ∧ yX3_stepsFrom.cls ≠ "java/lang/invoke/MethodHandle" ∧ yX3_stepsFrom.cls ≠ "java/lang/invoke/VarHandle" ∧ (parseMethodDescriptor yX3_stepsFrom.desc).map (fun d => d.parameters.length) = some 2 := by decide +kernel
set_option maxRecDepth 100000 in
set_option maxHeartbeats 4000000 in
theorem c_X3_stepsFrom (x1 : Int32) (x2 : Int32) (h : PH) (r : Int32) (hf : f_X3_stepsFrom x1 x2 h = some r) : Con yX3_stepsFrom wsX3_stepsFrom (rm_d 2) l0_B [.ref 10, .int x1, .int x2] h (some (.int r)) h := by

  refine con_i (ty := .int) (cc := cX3_stepsFrom) (nL := 6) (by decide) rfl (Nat.le_of_ble_eq_true rfl) ?_
  intro C hC hret
  change Go l0_B C 0 0 0 [(0, .ref 10), (1, .int x1), (2, .int x2)] [] h
  unfold f_X3_stepsFrom at hf
  refine go_iconst hC dX3_stepsFrom_0 k1_0 ?_
  refine go_istore_n hC dX3_stepsFrom_1 rfl (Nat.le_of_ble_eq_true rfl) rfl ?_
  refine go_iload_n hC dX3_stepsFrom_2 rfl 2 rfl ?_
  refine go_istore hC dX3_stepsFrom_3 (Nat.le_of_ble_eq_true rfl) rfl ?_
  obtain ⟨s_13, hl, hf⟩ := bd_e1 hf
  refine go_sub [2, 4, 1, 0] rfl ?_
  refine lw_X3_stepsFrom_5 hC x2 h _ 0 x1 s_13 hl ?_
  rcases s_13 with r_15 | e_14
  · replace hf : some r_15 = some _ := hf
    cases hf
    exact hret
  · replace hf := sw_r hf
    refine go_iload_n hC dX3_stepsFrom_51 rfl 0 rfl ?_
    obtain rfl := so_1 hf
    exact hret _ _ rfl dX3_stepsFrom_52
def lb_X3_stepOf_6 (x2 : Int32) (x3 : Int32) (h : PH) (x4 : Int32) (x5 : Int32) : Option ((Int32 × Int32) ⊕ ((Int32) ⊕ (Int32 × Int32))) :=
  if 8 ≤ x5 then (
  some (.inr (.inr (x4, x5))))
  else (
  bd_1 (f_X3_firstStep x4 x2 h) fun r_7 =>
  if r_7 = (-9) then (
  some (.inr (.inl r_7)))
  else (
  if x5 = x3 then (
  some (.inr (.inl r_7)))
  else (
  bd_1 (f_X3_otherEnd r_7 x4 h) fun r_8 =>
  lt_b (x5 + 1) fun x5_9 =>
  some (.inl (r_8, x5_9)))))
def f_X3_stepOf (x1 : Int32) (x2 : Int32) (x3 : Int32) (h : PH) : Option (Int32) :=
  bd_1 (lp_f (fun s => lb_X3_stepOf_6 x2 x3 h s.1 s.2) fu_l (x1, 0)) fun s_13 => sw_b s_13 (fun r_15 => some r_15) fun e_14 =>
  some (-9)
set_option maxRecDepth 100000 in
set_option maxHeartbeats 4000000 in
theorem lw_X3_stepOf_6 {C : GC} (hC : Cx C cX3_stepOf 7 wsX3_stepOf RX3 (some .int) (rm_d 2)) (x2 : Int32) (x3 : Int32) (h : PH) : ∀ (n9 : Nat) (x4 : Int32) (x5 : Int32) (y : (Int32) ⊕ (Int32 × Int32)), lp_f (fun s => lb_X3_stepOf_6 x2 x3 h s.1 s.2) n9 (x4, x5) = some y → ∀ (hk : match y with | .inl r => (∀ (pc : Nat) (L : List (Nat × Value)), narrow .int (.int r) = .int r → decode cX3_stepOf pc = .ok (.ireturn, 1) → Go l0_B C 0 0 pc L [.int r] h) | .inr e => Go l0_B C 0 0 54 [] [] h), Go l0_B C 0 0 6 [(0, .ref 10), (2, .int x2), (3, .int x3), (4, .int x4), (5, .int x5)] [] h := by

  intro n9
  induction n9 with
  | zero =>
    intro x4 x5 y hlp
    cases hlp
  | succ n9 ih =>
    intro x4 x5 y hlp hk
    obtain ⟨k9, z, hk9, hf, hy⟩ := lp_e hlp
    cases hk9
    replace hf : lb_X3_stepOf_6 x2 x3 h x4 x5 = some z := hf
    unfold lb_X3_stepOf_6 at hf
    refine go_iload hC dX3_stepOf_6 4 rfl ?_
    refine go_bipush hC dX3_stepOf_8 k8_8 ?_
    refine go_icmp_ge hC dX3_stepOf_10 (tgt := 54) (by decide) (fun c_12 => ?_) (fun c_12 => ?_)
    · replace hf := if_t c_12 hf
      obtain rfl := so_1 hf
      obtain rfl := lp_x hy
      refine go_sub [] rfl ?_
      exact hk
    · replace hf := if_f c_12 hf
      refine go_aload_n hC dX3_stepOf_13 rfl 0 rfl ?_
      refine go_iload hC dX3_stepOf_14 3 rfl ?_
      refine go_iload_n hC dX3_stepOf_16 rfl 1 rfl ?_
      obtain ⟨r_7, hc, hf⟩ := bd_e1 hf
      refine go_callV hC (c_X3_firstStep x4 x2 h r_7 hc) gX3_stepOf_X3_firstStep rfl ⟨rfl, rfl⟩ 2 e_X3_firstStep ⟨Nat.le_of_ble_eq_true rfl, Nat.le_of_ble_eq_true rfl⟩ (b_10 _) rfl rfl (st := []) (st1 := [.int r_7]) rfl rfl (Nat.le_of_ble_eq_true rfl) ⟨Nat.zero_le _, Nat.zero_le _⟩ dX3_stepOf_17 ?_
      refine go_istore hC dX3_stepOf_20 (Nat.le_of_ble_eq_true rfl) rfl ?_
      refine go_iload hC dX3_stepOf_22 0 rfl ?_
      refine go_bipush hC dX3_stepOf_24 k8_m9 ?_
      refine go_icmp_eq hC dX3_stepOf_26 (tgt := 35) (by decide) (fun c_11 => ?_) (fun c_11 => ?_)
      · replace hf := if_t c_11 hf
        refine go_iload hC dX3_stepOf_35 0 rfl ?_
        obtain rfl := so_1 hf
        obtain rfl := lp_x hy
        exact hk _ _ rfl dX3_stepOf_37
      · replace hf := if_f c_11 hf
        refine go_iload hC dX3_stepOf_29 5 rfl ?_
        refine go_iload_n hC dX3_stepOf_31 rfl 3 rfl ?_
        refine go_icmp_ne hC dX3_stepOf_32 (tgt := 38) (by decide) (fun c_10 => ?_) (fun c_10 => ?_)
        · replace hf := if_f c_10 hf
          refine go_aload_n hC dX3_stepOf_38 rfl 1 rfl ?_
          refine go_iload hC dX3_stepOf_39 0 rfl ?_
          refine go_iload hC dX3_stepOf_41 4 rfl ?_
          obtain ⟨r_8, hc, hf⟩ := bd_e1 hf
          refine go_callV hC (c_X3_otherEnd r_7 x4 h r_8 hc) gX3_stepOf_X3_otherEnd rfl ⟨rfl, rfl⟩ 2 e_X3_otherEnd ⟨Nat.le_of_ble_eq_true rfl, Nat.le_of_ble_eq_true rfl⟩ (b_10 _) rfl rfl (st := []) (st1 := [.int r_8]) rfl rfl (Nat.le_of_ble_eq_true rfl) ⟨Nat.zero_le _, Nat.zero_le _⟩ dX3_stepOf_43 ?_
          refine go_istore hC dX3_stepOf_46 (Nat.le_of_ble_eq_true rfl) rfl ?_
          obtain ⟨x5_9, ex5_9, hf⟩ := lt_e hf
          refine go_iinc hC dX3_stepOf_48 5 rfl k1_1 ex5_9 (Nat.le_of_ble_eq_true rfl) rfl ?_
          refine go_goto hC dX3_stepOf_51 (tgt := 6) (by decide) ?_
          obtain rfl := so_1 hf
          refine go_sub [3, 4, 5, 1, 0] rfl ?_
          exact ih r_8 x5_9 _ (lp_c hy) hk
        · replace hf := if_t c_10 hf
          refine go_iload hC dX3_stepOf_35 0 rfl ?_
          obtain rfl := so_1 hf
          obtain rfl := lp_x hy
          exact hk _ _ rfl dX3_stepOf_37
theorem e_X3_stepOf : yX3_stepOf.cls = RX3 ∧ yX3_stepOf.cls ≠ "java/lang/invoke/MethodHandle" ∧ yX3_stepOf.cls ≠ "java/lang/invoke/VarHandle" ∧ (parseMethodDescriptor yX3_stepOf.desc).map (fun d => d.parameters.length) = some 3 := by decide +kernel
set_option maxRecDepth 100000 in
set_option maxHeartbeats 4000000 in
theorem c_X3_stepOf (x1 : Int32) (x2 : Int32) (x3 : Int32) (h : PH) (r : Int32) (hf : f_X3_stepOf x1 x2 x3 h = some r) : Con yX3_stepOf wsX3_stepOf (rm_d 2) l0_B [.ref 10, .int x1, .int x2, .int x3] h (some (.int r)) h := by

  refine con_i (ty := .int) (cc := cX3_stepOf) (nL := 7) (by decide) rfl (Nat.le_of_ble_eq_true rfl) ?_
  intro C hC hret
  change Go l0_B C 0 0 0 [(0, .ref 10), (1, .int x1), (2, .int x2), (3, .int x3)] [] h
  unfold f_X3_stepOf at hf
  refine go_iload_n hC dX3_stepOf_0 rfl 1 rfl ?_
  refine go_istore hC dX3_stepOf_1 (Nat.le_of_ble_eq_true rfl) rfl ?_
  refine go_iconst hC dX3_stepOf_3 k1_0 ?_
  refine go_istore hC dX3_stepOf_4 (Nat.le_of_ble_eq_true rfl) rfl ?_
  obtain ⟨s_13, hl, hf⟩ := bd_e1 hf
  refine go_sub [2, 4, 5, 1, 0] rfl ?_
  refine lw_X3_stepOf_6 hC x2 x3 h _ x1 0 s_13 hl ?_
  rcases s_13 with r_15 | e_14
  · replace hf : some r_15 = some _ := hf
    cases hf
    exact hret
  · replace hf := sw_r hf
    refine go_bipush hC dX3_stepOf_54 k8_m9 ?_
    obtain rfl := so_1 hf
    exact hret _ _ rfl dX3_stepOf_56
def f_X6_all (h : PH) : Option (Int32) :=
  some (((1 : Int32) <<< ((h.1 17 0) &&& 31)) - 1)
theorem e_X6_all : yX6_all.cls = RX6 ∧ yX6_all.cls ≠ "java/lang/invoke/MethodHandle" ∧ yX6_all.cls ≠ "java/lang/invoke/VarHandle" ∧ (parseMethodDescriptor yX6_all.desc).map (fun d => d.parameters.length) = some 0 := by decide +kernel
set_option maxRecDepth 100000 in
set_option maxHeartbeats 4000000 in
theorem c_X6_all (h : PH) (r : Int32) (hf : f_X6_all h = some r) : Con yX6_all wsX6_all (rm_d 0) l0_B [.ref 17] h (some (.int r)) h := by
  have hn6 : ∀ w ∈ wsX60, w ∈ wsX6_all := (fun _ hw => (List.mem_cons_of_mem _ (List.mem_append_right _ hw)))
  refine con_i (ty := .int) (cc := cX6_all) (nL := 1) (by decide) rfl (Nat.le_of_ble_eq_true rfl) ?_
  intro C hC hret
  change Go l0_B C 0 0 0 [(0, .ref 17)] [] h
  unfold f_X6_all at hf
  refine go_iconst hC dX6_all_0 k1_1 ?_
  refine go_aload_n hC dX6_all_1 rfl 0 rfl ?_
  refine go_geti hC (j := 0) (idx := 24) (nm := "count") (ds := "I") (b_17 _) rfl rfl hn6 (Nat.le_of_ble_eq_true rfl) rfl rfl (List.mem_cons_of_mem _ (List.mem_append_left _ (List.mem_of_getElem? (i := 0) rfl))) (Or.inl rfl) dX6_all_2 ?_
  refine go_ishl hC dX6_all_5 ?_
  refine go_iconst hC dX6_all_6 k1_1 ?_
  refine go_isub hC dX6_all_7 ?_
  obtain rfl := so_1 hf
  exact hret _ _ rfl dX6_all_8
def f_J6_bitCount_0f7a4 (x0 : Int32) (h : PH) : Option (Int32) :=
  lt_b (x0 - (((x0.toUInt32 >>> ((1 : Int32).toUInt32 &&& Int32.toUInt32 31)).toInt32) &&& 1431655765)) fun x0_1 =>
  lt_b ((x0_1 &&& 858993459) + (((x0_1.toUInt32 >>> ((2 : Int32).toUInt32 &&& Int32.toUInt32 31)).toInt32) &&& 858993459)) fun x0_2 =>
  lt_b ((x0_2 + ((x0_2.toUInt32 >>> ((4 : Int32).toUInt32 &&& Int32.toUInt32 31)).toInt32)) &&& 252645135) fun x0_3 =>
  lt_b (x0_3 + ((x0_3.toUInt32 >>> ((8 : Int32).toUInt32 &&& Int32.toUInt32 31)).toInt32)) fun x0_4 =>
  lt_b (x0_4 + ((x0_4.toUInt32 >>> ((16 : Int32).toUInt32 &&& Int32.toUInt32 31)).toInt32)) fun x0_5 =>
  some (x0_5 &&& 63)
theorem e_J6_bitCount_0f7a4 : yJ6_bitCount_0f7a4.cls ≠ "java/lang/invoke/MethodHandle" ∧ yJ6_bitCount_0f7a4.cls ≠ "java/lang/invoke/VarHandle" ∧ (parseMethodDescriptor yJ6_bitCount_0f7a4.desc).map (fun d => d.parameters.length) = some 1 := by decide +kernel
set_option maxRecDepth 100000 in
set_option maxHeartbeats 4000000 in
theorem c_J6_bitCount_0f7a4 (x0 : Int32) (h : PH) (r : Int32) (hf : f_J6_bitCount_0f7a4 x0 h = some r) : Con yJ6_bitCount_0f7a4 wsJ6_bitCount_0f7a4 (rm_d 0) l0_B [.int x0] h (some (.int r)) h := by

  refine con_i (ty := .int) (cc := cJ6_bitCount_0f7a4) (nL := 1) (by decide) rfl (Nat.le_of_ble_eq_true rfl) ?_
  intro C hC hret
  change Go l0_B C 0 0 0 [(0, .int x0)] [] h
  unfold f_J6_bitCount_0f7a4 at hf
  refine go_iload_n hC dJ6_bitCount_0f7a4_0 rfl 0 rfl ?_
  refine go_iload_n hC dJ6_bitCount_0f7a4_1 rfl 0 rfl ?_
  refine go_iconst hC dJ6_bitCount_0f7a4_2 k1_1 ?_
  refine go_iushr hC dJ6_bitCount_0f7a4_3 ?_
  refine go_ldcw hC (v := 1431655765) (List.mem_cons_of_mem _ (List.mem_of_getElem? (i := 0) rfl)) dJ6_bitCount_0f7a4_4 ?_
  refine go_iand hC dJ6_bitCount_0f7a4_7 ?_
  refine go_isub hC dJ6_bitCount_0f7a4_8 ?_
  obtain ⟨x0_1, ex0_1, hf⟩ := lt_e hf
  refine go_topi ex0_1 ?_
  refine go_istore_n hC dJ6_bitCount_0f7a4_9 rfl (Nat.le_of_ble_eq_true rfl) rfl ?_
  refine go_iload_n hC dJ6_bitCount_0f7a4_10 rfl 0 rfl ?_
  refine go_ldcw hC (v := 858993459) (List.mem_cons_of_mem _ (List.mem_of_getElem? (i := 1) rfl)) dJ6_bitCount_0f7a4_11 ?_
  refine go_iand hC dJ6_bitCount_0f7a4_14 ?_
  refine go_iload_n hC dJ6_bitCount_0f7a4_15 rfl 0 rfl ?_
  refine go_iconst hC dJ6_bitCount_0f7a4_16 k1_2 ?_
  refine go_iushr hC dJ6_bitCount_0f7a4_17 ?_
  refine go_ldcw hC (v := 858993459) (List.mem_cons_of_mem _ (List.mem_of_getElem? (i := 1) rfl)) dJ6_bitCount_0f7a4_18 ?_
  refine go_iand hC dJ6_bitCount_0f7a4_21 ?_
  refine go_iadd hC dJ6_bitCount_0f7a4_22 ?_
  obtain ⟨x0_2, ex0_2, hf⟩ := lt_e hf
  refine go_topi ex0_2 ?_
  refine go_istore_n hC dJ6_bitCount_0f7a4_23 rfl (Nat.le_of_ble_eq_true rfl) rfl ?_
  refine go_iload_n hC dJ6_bitCount_0f7a4_24 rfl 0 rfl ?_
  refine go_iload_n hC dJ6_bitCount_0f7a4_25 rfl 0 rfl ?_
  refine go_iconst hC dJ6_bitCount_0f7a4_26 k1_4 ?_
  refine go_iushr hC dJ6_bitCount_0f7a4_27 ?_
  refine go_iadd hC dJ6_bitCount_0f7a4_28 ?_
  refine go_ldcw hC (v := 252645135) (List.mem_cons_of_mem _ (List.mem_of_getElem? (i := 2) rfl)) dJ6_bitCount_0f7a4_29 ?_
  refine go_iand hC dJ6_bitCount_0f7a4_32 ?_
  obtain ⟨x0_3, ex0_3, hf⟩ := lt_e hf
  refine go_topi ex0_3 ?_
  refine go_istore_n hC dJ6_bitCount_0f7a4_33 rfl (Nat.le_of_ble_eq_true rfl) rfl ?_
  refine go_iload_n hC dJ6_bitCount_0f7a4_34 rfl 0 rfl ?_
  refine go_iload_n hC dJ6_bitCount_0f7a4_35 rfl 0 rfl ?_
  refine go_bipush hC dJ6_bitCount_0f7a4_36 k8_8 ?_
  refine go_iushr hC dJ6_bitCount_0f7a4_38 ?_
  refine go_iadd hC dJ6_bitCount_0f7a4_39 ?_
  obtain ⟨x0_4, ex0_4, hf⟩ := lt_e hf
  refine go_topi ex0_4 ?_
  refine go_istore_n hC dJ6_bitCount_0f7a4_40 rfl (Nat.le_of_ble_eq_true rfl) rfl ?_
  refine go_iload_n hC dJ6_bitCount_0f7a4_41 rfl 0 rfl ?_
  refine go_iload_n hC dJ6_bitCount_0f7a4_42 rfl 0 rfl ?_
  refine go_bipush hC dJ6_bitCount_0f7a4_43 k8_16 ?_
  refine go_iushr hC dJ6_bitCount_0f7a4_45 ?_
  refine go_iadd hC dJ6_bitCount_0f7a4_46 ?_
  obtain ⟨x0_5, ex0_5, hf⟩ := lt_e hf
  refine go_topi ex0_5 ?_
  refine go_istore_n hC dJ6_bitCount_0f7a4_47 rfl (Nat.le_of_ble_eq_true rfl) rfl ?_
  refine go_iload_n hC dJ6_bitCount_0f7a4_48 rfl 0 rfl ?_
  refine go_bipush hC dJ6_bitCount_0f7a4_49 k8_63 ?_
  refine go_iand hC dJ6_bitCount_0f7a4_51 ?_
  obtain rfl := so_1 hf
  exact hret _ _ rfl dJ6_bitCount_0f7a4_52
def f_X6_isLoad (x0 : Int32) (h : PH) : Option (Int32) :=
  if x0 < 1 then (
  some 0)
  else (
  if 20 < x0 then (
  some 0)
  else (
  some 1))
theorem e_X6_isLoad : yX6_isLoad.cls ≠ "java/lang/invoke/MethodHandle" ∧ yX6_isLoad.cls ≠ "java/lang/invoke/VarHandle" ∧ (parseMethodDescriptor yX6_isLoad.desc).map (fun d => d.parameters.length) = some 1 := by decide +kernel
set_option maxRecDepth 100000 in
set_option maxHeartbeats 4000000 in
theorem c_X6_isLoad (x0 : Int32) (h : PH) (r : Int32) (hf : f_X6_isLoad x0 h = some r) : Con yX6_isLoad wsX6_isLoad (rm_d 0) l0_B [.int x0] h (some (.int r)) h := by

  refine con_i (ty := .boolean) (cc := cX6_isLoad) (nL := 1) (by decide) rfl (Nat.le_of_ble_eq_true rfl) ?_
  intro C hC hret
  change Go l0_B C 0 0 0 [(0, .int x0)] [] h
  unfold f_X6_isLoad at hf
  refine go_iload_n hC dX6_isLoad_0 rfl 0 rfl ?_
  refine go_iconst hC dX6_isLoad_1 k1_1 ?_
  refine go_icmp_lt hC dX6_isLoad_2 (tgt := 15) (by decide) (fun c_2 => ?_) (fun c_2 => ?_)
  · replace hf := if_t c_2 hf
    refine go_iconst hC dX6_isLoad_15 k1_0 ?_
    obtain rfl := so_1 hf
    exact hret _ _ (zo_n (Or.inl rfl)) dX6_isLoad_16
  · replace hf := if_f c_2 hf
    refine go_iload_n hC dX6_isLoad_5 rfl 0 rfl ?_
    refine go_bipush hC dX6_isLoad_6 k8_20 ?_
    refine go_icmp_gt hC dX6_isLoad_8 (tgt := 15) (by decide) (fun c_1 => ?_) (fun c_1 => ?_)
    · replace hf := if_t c_1 hf
      refine go_iconst hC dX6_isLoad_15 k1_0 ?_
      obtain rfl := so_1 hf
      exact hret _ _ (zo_n (Or.inl rfl)) dX6_isLoad_16
    · replace hf := if_f c_1 hf
      refine go_iconst hC dX6_isLoad_11 k1_1 ?_
      refine go_goto hC dX6_isLoad_12 (tgt := 16) (by decide) ?_
      obtain rfl := so_1 hf
      exact hret _ _ (zo_n (Or.inr rfl)) dX6_isLoad_16
def f_X6_isPoint (x1 : Int32) (h : PH) : Option (Int32) :=
  if x1 < 0 then (
  some 0)
  else (
  if (h.1 17 0) ≤ x1 then (
  some 0)
  else (
  some 1))
theorem e_X6_isPoint : yX6_isPoint.cls = RX6 ∧ yX6_isPoint.cls ≠ "java/lang/invoke/MethodHandle" ∧ yX6_isPoint.cls ≠ "java/lang/invoke/VarHandle" ∧ (parseMethodDescriptor yX6_isPoint.desc).map (fun d => d.parameters.length) = some 1 := by decide +kernel
set_option maxRecDepth 100000 in
set_option maxHeartbeats 4000000 in
theorem c_X6_isPoint (x1 : Int32) (h : PH) (r : Int32) (hf : f_X6_isPoint x1 h = some r) : Con yX6_isPoint wsX6_isPoint (rm_d 0) l0_B [.ref 17, .int x1] h (some (.int r)) h := by
  have hn6 : ∀ w ∈ wsX60, w ∈ wsX6_isPoint := (fun _ hw => (List.mem_cons_of_mem _ (List.mem_append_right _ hw)))
  refine con_i (ty := .boolean) (cc := cX6_isPoint) (nL := 2) (by decide) rfl (Nat.le_of_ble_eq_true rfl) ?_
  intro C hC hret
  change Go l0_B C 0 0 0 [(0, .ref 17), (1, .int x1)] [] h
  unfold f_X6_isPoint at hf
  refine go_iload_n hC dX6_isPoint_0 rfl 1 rfl ?_
  refine go_if_lt hC dX6_isPoint_1 (tgt := 16) (by decide) (fun c_2 => ?_) (fun c_2 => ?_)
  · replace hf := if_t c_2 hf
    refine go_iconst hC dX6_isPoint_16 k1_0 ?_
    obtain rfl := so_1 hf
    exact hret _ _ (zo_n (Or.inl rfl)) dX6_isPoint_17
  · replace hf := if_f c_2 hf
    refine go_iload_n hC dX6_isPoint_4 rfl 1 rfl ?_
    refine go_aload_n hC dX6_isPoint_5 rfl 0 rfl ?_
    refine go_geti hC (j := 0) (idx := 24) (nm := "count") (ds := "I") (b_17 _) rfl rfl hn6 (Nat.le_of_ble_eq_true rfl) rfl rfl (List.mem_cons_of_mem _ (List.mem_append_left _ (List.mem_of_getElem? (i := 0) rfl))) (Or.inl rfl) dX6_isPoint_6 ?_
    refine go_icmp_ge hC dX6_isPoint_9 (tgt := 16) (by decide) (fun c_1 => ?_) (fun c_1 => ?_)
    · replace hf := if_t c_1 hf
      refine go_iconst hC dX6_isPoint_16 k1_0 ?_
      obtain rfl := so_1 hf
      exact hret _ _ (zo_n (Or.inl rfl)) dX6_isPoint_17
    · replace hf := if_f c_1 hf
      refine go_iconst hC dX6_isPoint_12 k1_1 ?_
      refine go_goto hC dX6_isPoint_13 (tgt := 17) (by decide) ?_
      obtain rfl := so_1 hf
      exact hret _ _ (zo_n (Or.inr rfl)) dX6_isPoint_17
def f_X6_add (x1 : Int32) (x2 : Int32) (x3 : Int32) (h : PH) : Option (Int32 × PH) :=
  lt_b (h.1 17 0) fun x4_1 =>
  ga_i x4_1 8 (
  lt_b (ph_i h 18 x4_1.toNatClampNeg x1) fun h_3 =>
  ga_i x4_1 8 (
  lt_b (ph_i h_3 19 x4_1.toNatClampNeg x2) fun h_5 =>
  ga_i x4_1 8 (
  lt_b (ph_i h_5 20 x4_1.toNatClampNeg x3) fun h_7 =>
  ga_i x4_1 8 (
  lt_b (ph_i h_7 21 x4_1.toNatClampNeg (-9)) fun h_9 =>
  lt_b (ph_i h_9 17 0 ((h_9.1 17 0) + 1)) fun h_10 =>
  some (x4_1, h_10)))))
theorem e_X6_add : yX6_add.cls = RX6 ∧ yX6_add.cls ≠ "java/lang/invoke/MethodHandle" ∧ yX6_add.cls ≠ "java/lang/invoke/VarHandle" ∧ (parseMethodDescriptor yX6_add.desc).map (fun d => d.parameters.length) = some 3 := by decide +kernel
set_option maxRecDepth 100000 in
set_option maxHeartbeats 4000000 in
theorem c_X6_add (x1 : Int32) (x2 : Int32) (x3 : Int32) (h : PH) (h2 : PH) (r : Int32) (hf : f_X6_add x1 x2 x3 h = some (r, h2)) : Con yX6_add wsX6_add (rm_d 0) l0_B [.ref 17, .int x1, .int x2, .int x3] h (some (.int r)) h2 := by
  have hn6 : ∀ w ∈ wsX60, w ∈ wsX6_add := (fun _ hw => (List.mem_cons_of_mem _ (List.mem_append_right _ hw)))
  refine con_i (ty := .int) (cc := cX6_add) (nL := 5) (by decide) rfl (Nat.le_of_ble_eq_true rfl) ?_
  intro C hC hret
  change Go l0_B C 0 0 0 [(0, .ref 17), (1, .int x1), (2, .int x2), (3, .int x3)] [] h
  unfold f_X6_add at hf
  refine go_aload_n hC dX6_add_0 rfl 0 rfl ?_
  refine go_geti hC (j := 0) (idx := 24) (nm := "count") (ds := "I") (b_17 _) rfl rfl hn6 (Nat.le_of_ble_eq_true rfl) rfl rfl (List.mem_cons_of_mem _ (List.mem_append_left _ (List.mem_of_getElem? (i := 0) rfl))) (Or.inl rfl) dX6_add_1 ?_
  obtain ⟨x4_1, ex4_1, hf⟩ := lt_e hf
  refine go_topi ex4_1 ?_
  refine go_istore hC dX6_add_4 (Nat.le_of_ble_eq_true rfl) rfl ?_
  refine go_aload_n hC dX6_add_6 rfl 1 rfl ?_
  refine go_getr hC (j := 1) (idx := 9) (nm := "places") (ds := "[I") (b_17 _) rfl rfl hn6 (Nat.le_of_ble_eq_true rfl) rfl rfl (List.mem_cons_of_mem _ (List.mem_append_left _ (List.mem_of_getElem? (i := 1) rfl))) (Or.inl rfl) dX6_add_7 ?_
  refine go_iload hC dX6_add_10 0 rfl ?_
  refine go_iload_n hC dX6_add_12 rfl 2 rfl ?_
  obtain ⟨g_2, hf⟩ := ga_e hf
  obtain ⟨h_3, eh_3, hf⟩ := lt_e hf
  refine go_iast hC (b_18 _) g_2 dX6_add_13 ?_
  refine go_toph eh_3 ?_
  refine go_aload_n hC dX6_add_14 rfl 1 rfl ?_
  refine go_getr hC (j := 2) (idx := 15) (nm := "loads") (ds := "[I") (b_17 _) rfl rfl hn6 (Nat.le_of_ble_eq_true rfl) rfl rfl (List.mem_cons_of_mem _ (List.mem_append_left _ (List.mem_of_getElem? (i := 2) rfl))) (Or.inl rfl) dX6_add_15 ?_
  refine go_iload hC dX6_add_18 0 rfl ?_
  refine go_iload_n hC dX6_add_20 rfl 3 rfl ?_
  obtain ⟨g_4, hf⟩ := ga_e hf
  obtain ⟨h_5, eh_5, hf⟩ := lt_e hf
  refine go_iast hC (b_19 _) g_4 dX6_add_21 ?_
  refine go_toph eh_5 ?_
  refine go_aload_n hC dX6_add_22 rfl 1 rfl ?_
  refine go_getr hC (j := 3) (idx := 18) (nm := "rooms") (ds := "[I") (b_17 _) rfl rfl hn6 (Nat.le_of_ble_eq_true rfl) rfl rfl (List.mem_cons_of_mem _ (List.mem_append_left _ (List.mem_of_getElem? (i := 3) rfl))) (Or.inl rfl) dX6_add_23 ?_
  refine go_iload hC dX6_add_26 0 rfl ?_
  refine go_iload_n hC dX6_add_28 rfl 4 rfl ?_
  obtain ⟨g_6, hf⟩ := ga_e hf
  obtain ⟨h_7, eh_7, hf⟩ := lt_e hf
  refine go_iast hC (b_20 _) g_6 dX6_add_29 ?_
  refine go_toph eh_7 ?_
  refine go_aload_n hC dX6_add_30 rfl 1 rfl ?_
  refine go_getr hC (j := 4) (idx := 21) (nm := "owners") (ds := "[I") (b_17 _) rfl rfl hn6 (Nat.le_of_ble_eq_true rfl) rfl rfl (List.mem_cons_of_mem _ (List.mem_append_left _ (List.mem_of_getElem? (i := 4) rfl))) (Or.inl rfl) dX6_add_31 ?_
  refine go_iload hC dX6_add_34 0 rfl ?_
  refine go_bipush hC dX6_add_36 k8_m9 ?_
  obtain ⟨g_8, hf⟩ := ga_e hf
  obtain ⟨h_9, eh_9, hf⟩ := lt_e hf
  refine go_iast hC (b_21 _) g_8 dX6_add_38 ?_
  refine go_toph eh_9 ?_
  refine go_aload_n hC dX6_add_39 rfl 1 rfl ?_
  refine go_dup hC dX6_add_40 rfl ?_
  refine go_geti hC (j := 0) (idx := 24) (nm := "count") (ds := "I") (b_17 _) rfl rfl hn6 (Nat.le_of_ble_eq_true rfl) rfl rfl (List.mem_cons_of_mem _ (List.mem_append_left _ (List.mem_of_getElem? (i := 0) rfl))) (Or.inl rfl) dX6_add_41 ?_
  refine go_iconst hC dX6_add_44 k1_1 ?_
  refine go_iadd hC dX6_add_45 ?_
  obtain ⟨h_10, eh_10, hf⟩ := lt_e hf
  refine go_puti hC tyX6 (j := 0) (idx := 24) (nm := "count") (ds := "I") (b_17 _) rfl rfl hn6 tyX6_ok nmX6 (Nat.le_of_ble_eq_true rfl) rfl rfl (List.mem_cons_of_mem _ (List.mem_append_left _ (List.mem_of_getElem? (i := 0) rfl))) (Or.inl rfl) rfl (tyX6_ok _ (Nat.le_of_ble_eq_true rfl)) dX6_add_46 ?_
  refine go_toph eh_10 ?_
  refine go_iload hC dX6_add_49 0 rfl ?_
  obtain ⟨rfl, rfl⟩ := so_2 hf
  exact hret _ _ rfl dX6_add_51
def lb_X6_refusalOf_3 (x2 : Int32) (x3 : Int32) (h : PH) (x4 : Int32) : Option ((Int32) ⊕ ((Int32) ⊕ (Int32))) :=
  if x3 ≤ x4 then (
  some (.inr (.inr x4)))
  else (
  ga_i (x2 + x4) 400 (
  bd_1 (f_X6_isPoint (h.1 4 (x2 + x4).toNatClampNeg) h) fun r_7 =>
  if r_7 = 0 then (
  some (.inr (.inl (-1))))
  else (
  lt_b (x4 + 1) fun x4_8 =>
  some (.inl x4_8))))
def lb_X6_refusalOf_36 (x2 : Int32) (x3 : Int32) (h : PH) (x4 : Int32) (x5 : Int32) : Option ((Int32 × Int32) ⊕ ((Int32) ⊕ (Int32 × Int32))) :=
  if x3 ≤ x5 then (
  some (.inr (.inr (x4, x5))))
  else (
  ga_i (x2 + x5) 400 (
  lt_b (h.1 4 (x2 + x5).toNatClampNeg) fun x6_22 =>
  ga_i x6_22 8 (
  if (h.1 21 x6_22.toNatClampNeg) = (-9) then (
  if ((x4 >>> (x6_22 &&& 31)) &&& 1) = 0 then (
  lt_b (x4 ||| ((1 : Int32) <<< (x6_22 &&& 31))) fun x4_24 =>
  lt_b (x5 + 1) fun x5_25 =>
  some (.inl (x4_24, x5_25)))
  else (
  some (.inr (.inl (-3)))))
  else (
  some (.inr (.inl (-3)))))))
def f_X6_refusalOf (x2 : Int32) (x3 : Int32) (h : PH) : Option (Int32) :=
  bd_1 (lp_f (fun s => lb_X6_refusalOf_3 x2 x3 h s) fu_l 0) fun s_11 => sw_b s_11 (fun r_32 => some r_32) fun e_12 =>
  bd_1 (lp_f (fun s => lb_X6_refusalOf_36 x2 x3 h s.1 s.2) fu_l (0, 0)) fun s_29 => sw_b s_29 (fun r_31 => some r_31) fun e_30 =>
  some 0
set_option maxRecDepth 100000 in
set_option maxHeartbeats 4000000 in
theorem lw_X6_refusalOf_3 {C : GC} (hC : Cx C cX6_refusalOf 7 wsX6_refusalOf RX6 (some .int) (rm_d 1)) (x2 : Int32) (x3 : Int32) (h : PH) : ∀ (n9 : Nat) (x4 : Int32) (y : (Int32) ⊕ (Int32)), lp_f (fun s => lb_X6_refusalOf_3 x2 x3 h s) n9 x4 = some y → ∀ (hk : match y with | .inl r => (∀ (pc : Nat) (L : List (Nat × Value)), narrow .int (.int r) = .int r → decode cX6_refusalOf pc = .ok (.ireturn, 1) → Go l0_B C 0 0 pc L [.int r] h) | .inr e => Go l0_B C 0 0 30 [(0, .ref 17), (1, .ref 4), (2, .int x2), (3, .int x3)] [] h), Go l0_B C 0 0 3 [(0, .ref 17), (1, .ref 4), (2, .int x2), (3, .int x3), (4, .int x4)] [] h := by

  intro n9
  induction n9 with
  | zero =>
    intro x4 y hlp
    cases hlp
  | succ n9 ih =>
    intro x4 y hlp hk
    obtain ⟨k9, z, hk9, hf, hy⟩ := lp_e hlp
    cases hk9
    replace hf : lb_X6_refusalOf_3 x2 x3 h x4 = some z := hf
    unfold lb_X6_refusalOf_3 at hf
    refine go_iload hC dX6_refusalOf_3 4 rfl ?_
    refine go_iload_n hC dX6_refusalOf_5 rfl 3 rfl ?_
    refine go_icmp_ge hC dX6_refusalOf_6 (tgt := 30) (by decide) (fun c_10 => ?_) (fun c_10 => ?_)
    · replace hf := if_t c_10 hf
      obtain rfl := so_1 hf
      obtain rfl := lp_x hy
      refine go_sub [0, 1, 2, 3] rfl ?_
      exact hk
    · replace hf := if_f c_10 hf
      refine go_aload_n hC dX6_refusalOf_9 rfl 0 rfl ?_
      refine go_aload_n hC dX6_refusalOf_10 rfl 1 rfl ?_
      refine go_iload_n hC dX6_refusalOf_11 rfl 2 rfl ?_
      refine go_iload hC dX6_refusalOf_12 4 rfl ?_
      refine go_iadd hC dX6_refusalOf_14 ?_
      obtain ⟨g_6, hf⟩ := ga_e hf
      refine go_iald hC (b_4 _) g_6 dX6_refusalOf_15 ?_
      obtain ⟨r_7, hc, hf⟩ := bd_e1 hf
      refine go_callV hC (c_X6_isPoint (h.1 4 (x2 + x4).toNatClampNeg) h r_7 hc) gX6_refusalOf_X6_isPoint rfl ⟨rfl, rfl⟩ 1 e_X6_isPoint ⟨Nat.le_of_ble_eq_true rfl, Nat.le_of_ble_eq_true rfl⟩ (b_17 _) rfl rfl (st := []) (st1 := [.int r_7]) rfl rfl (Nat.le_of_ble_eq_true rfl) ⟨Nat.zero_le _, Nat.zero_le _⟩ dX6_refusalOf_16 ?_
      refine go_if_ne hC dX6_refusalOf_19 (tgt := 24) (by decide) (fun c_9 => ?_) (fun c_9 => ?_)
      · replace hf := if_f c_9 hf
        obtain ⟨x4_8, ex4_8, hf⟩ := lt_e hf
        refine go_iinc hC dX6_refusalOf_24 4 rfl k1_1 ex4_8 (Nat.le_of_ble_eq_true rfl) rfl ?_
        refine go_goto hC dX6_refusalOf_27 (tgt := 3) (by decide) ?_
        obtain rfl := so_1 hf
        refine go_sub [1, 2, 3, 4, 0] rfl ?_
        exact ih x4_8 _ (lp_c hy) hk
      · replace hf := if_t c_9 hf
        refine go_iconst hC dX6_refusalOf_22 k1_m1 ?_
        obtain rfl := so_1 hf
        obtain rfl := lp_x hy
        exact hk _ _ rfl dX6_refusalOf_23
set_option maxRecDepth 100000 in
set_option maxHeartbeats 4000000 in
theorem lw_X6_refusalOf_36 {C : GC} (hC : Cx C cX6_refusalOf 7 wsX6_refusalOf RX6 (some .int) (rm_d 1)) (x2 : Int32) (x3 : Int32) (h : PH) : ∀ (n9 : Nat) (x4 : Int32) (x5 : Int32) (y : (Int32) ⊕ (Int32 × Int32)), lp_f (fun s => lb_X6_refusalOf_36 x2 x3 h s.1 s.2) n9 (x4, x5) = some y → ∀ (hk : match y with | .inl r => (∀ (pc : Nat) (L : List (Nat × Value)), narrow .int (.int r) = .int r → decode cX6_refusalOf pc = .ok (.ireturn, 1) → Go l0_B C 0 0 pc L [.int r] h) | .inr e => Go l0_B C 0 0 90 [] [] h), Go l0_B C 0 0 36 [(0, .ref 17), (1, .ref 4), (2, .int x2), (3, .int x3), (4, .int x4), (5, .int x5)] [] h := by
  have hn6 : ∀ w ∈ wsX60, w ∈ wsX6_refusalOf := (fun _ hw => (List.mem_cons_of_mem _ (List.mem_append_right _ hw)))
  intro n9
  induction n9 with
  | zero =>
    intro x4 x5 y hlp
    cases hlp
  | succ n9 ih =>
    intro x4 x5 y hlp hk
    obtain ⟨k9, z, hk9, hf, hy⟩ := lp_e hlp
    cases hk9
    replace hf : lb_X6_refusalOf_36 x2 x3 h x4 x5 = some z := hf
    unfold lb_X6_refusalOf_36 at hf
    refine go_iload hC dX6_refusalOf_36 5 rfl ?_
    refine go_iload_n hC dX6_refusalOf_38 rfl 3 rfl ?_
    refine go_icmp_ge hC dX6_refusalOf_39 (tgt := 90) (by decide) (fun c_28 => ?_) (fun c_28 => ?_)
    · replace hf := if_t c_28 hf
      obtain rfl := so_1 hf
      obtain rfl := lp_x hy
      refine go_sub [] rfl ?_
      exact hk
    · replace hf := if_f c_28 hf
      refine go_aload_n hC dX6_refusalOf_42 rfl 1 rfl ?_
      refine go_iload_n hC dX6_refusalOf_43 rfl 2 rfl ?_
      refine go_iload hC dX6_refusalOf_44 5 rfl ?_
      refine go_iadd hC dX6_refusalOf_46 ?_
      obtain ⟨g_21, hf⟩ := ga_e hf
      refine go_iald hC (b_4 _) g_21 dX6_refusalOf_47 ?_
      obtain ⟨x6_22, ex6_22, hf⟩ := lt_e hf
      refine go_topi ex6_22 ?_
      refine go_istore hC dX6_refusalOf_48 (Nat.le_of_ble_eq_true rfl) rfl ?_
      refine go_aload_n hC dX6_refusalOf_50 rfl 1 rfl ?_
      refine go_getr hC (j := 4) (idx := 21) (nm := "owners") (ds := "[I") (b_17 _) rfl rfl hn6 (Nat.le_of_ble_eq_true rfl) rfl rfl (List.mem_cons_of_mem _ (List.mem_append_left _ (List.mem_of_getElem? (i := 0) rfl))) (Or.inl rfl) dX6_refusalOf_51 ?_
      refine go_iload hC dX6_refusalOf_54 0 rfl ?_
      obtain ⟨g_23, hf⟩ := ga_e hf
      refine go_iald hC (b_21 _) g_23 dX6_refusalOf_56 ?_
      refine go_bipush hC dX6_refusalOf_57 k8_m9 ?_
      refine go_icmp_ne hC dX6_refusalOf_59 (tgt := 72) (by decide) (fun c_27 => ?_) (fun c_27 => ?_)
      · replace hf := if_f c_27 hf
        refine go_bipush hC dX6_refusalOf_72 k8_m3 ?_
        obtain rfl := so_1 hf
        obtain rfl := lp_x hy
        exact hk _ _ rfl dX6_refusalOf_74
      · replace hf := if_t c_27 hf
        refine go_iload hC dX6_refusalOf_62 5 rfl ?_
        refine go_iload hC dX6_refusalOf_64 0 rfl ?_
        refine go_ishr hC dX6_refusalOf_66 ?_
        refine go_iconst hC dX6_refusalOf_67 k1_1 ?_
        refine go_iand hC dX6_refusalOf_68 ?_
        refine go_if_eq hC dX6_refusalOf_69 (tgt := 75) (by decide) (fun c_26 => ?_) (fun c_26 => ?_)
        · replace hf := if_t c_26 hf
          refine go_iload hC dX6_refusalOf_75 5 rfl ?_
          refine go_iconst hC dX6_refusalOf_77 k1_1 ?_
          refine go_iload hC dX6_refusalOf_78 0 rfl ?_
          refine go_ishl hC dX6_refusalOf_80 ?_
          refine go_ior hC dX6_refusalOf_81 ?_
          obtain ⟨x4_24, ex4_24, hf⟩ := lt_e hf
          refine go_topi ex4_24 ?_
          refine go_istore hC dX6_refusalOf_82 (Nat.le_of_ble_eq_true rfl) rfl ?_
          obtain ⟨x5_25, ex5_25, hf⟩ := lt_e hf
          refine go_iinc hC dX6_refusalOf_84 6 rfl k1_1 ex5_25 (Nat.le_of_ble_eq_true rfl) rfl ?_
          refine go_goto hC dX6_refusalOf_87 (tgt := 36) (by decide) ?_
          obtain rfl := so_1 hf
          refine go_sub [3, 4, 5, 6, 1, 0] rfl ?_
          exact ih x4_24 x5_25 _ (lp_c hy) hk
        · replace hf := if_f c_26 hf
          refine go_bipush hC dX6_refusalOf_72 k8_m3 ?_
          obtain rfl := so_1 hf
          obtain rfl := lp_x hy
          exact hk _ _ rfl dX6_refusalOf_74
theorem e_X6_refusalOf : yX6_refusalOf.cls = RX6 ∧ yX6_refusalOf.cls ≠ "java/lang/invoke/MethodHandle" ∧ yX6_refusalOf.cls ≠ "java/lang/invoke/VarHandle" ∧ (parseMethodDescriptor yX6_refusalOf.desc).map (fun d => d.parameters.length) = some 3 := by decide +kernel
set_option maxRecDepth 100000 in
set_option maxHeartbeats 4000000 in
theorem c_X6_refusalOf (x2 : Int32) (x3 : Int32) (h : PH) (r : Int32) (hf : f_X6_refusalOf x2 x3 h = some r) : Con yX6_refusalOf wsX6_refusalOf (rm_d 1) l0_B [.ref 17, .ref 4, .int x2, .int x3] h (some (.int r)) h := by
  have hn6 : ∀ w ∈ wsX60, w ∈ wsX6_refusalOf := (fun _ hw => (List.mem_cons_of_mem _ (List.mem_append_right _ hw)))
  refine con_i (ty := .int) (cc := cX6_refusalOf) (nL := 7) (by decide) rfl (Nat.le_of_ble_eq_true rfl) ?_
  intro C hC hret
  change Go l0_B C 0 0 0 [(0, .ref 17), (1, .ref 4), (2, .int x2), (3, .int x3)] [] h
  unfold f_X6_refusalOf at hf
  refine go_iconst hC dX6_refusalOf_0 k1_0 ?_
  refine go_istore hC dX6_refusalOf_1 (Nat.le_of_ble_eq_true rfl) rfl ?_
  obtain ⟨s_11, hl, hf⟩ := bd_e1 hf
  refine go_sub [1, 2, 3, 4, 0] rfl ?_
  refine lw_X6_refusalOf_3 hC x2 x3 h _ 0 s_11 hl ?_
  rcases s_11 with r_32 | e_12
  · replace hf : some r_32 = some _ := hf
    cases hf
    exact hret
  · replace hf := sw_r hf
    refine go_iconst hC dX6_refusalOf_30 k1_0 ?_
    refine go_istore hC dX6_refusalOf_31 (Nat.le_of_ble_eq_true rfl) rfl ?_
    refine go_iconst hC dX6_refusalOf_33 k1_0 ?_
    refine go_istore hC dX6_refusalOf_34 (Nat.le_of_ble_eq_true rfl) rfl ?_
    obtain ⟨s_29, hl, hf⟩ := bd_e1 hf
    refine go_sub [2, 3, 4, 5, 1, 0] rfl ?_
    refine lw_X6_refusalOf_36 hC x2 x3 h _ 0 0 s_29 hl ?_
    rcases s_29 with r_31 | e_30
    · replace hf : some r_31 = some _ := hf
      cases hf
      exact hret
    · replace hf := sw_r hf
      refine go_iconst hC dX6_refusalOf_90 k1_0 ?_
      obtain rfl := so_1 hf
      exact hret _ _ rfl dX6_refusalOf_91
def lb_X6_own_2 (a n : Nat) (x2 : Int32) (x3 : Int32) (h : PH) : Option ((Int32 × PH) ⊕ (Int32 × PH)) :=
  if (Int32.ofNat n) ≤ x3 then (
  some (.inr (x3, h)))
  else (
  ga_i x3 n (
  bd_1 (f_X6_isPoint (h.1 a x3.toNatClampNeg) h) fun r_11 =>
  if r_11 = 0 then (
  lt_b (x3 + 1) fun x3_12 =>
  some (.inl (x3_12, h)))
  else (
  ga_i x3 n (
  ga_i (h.1 a x3.toNatClampNeg) 8 (
  lt_b (ph_i h 21 (h.1 a x3.toNatClampNeg).toNatClampNeg x2) fun h_15 =>
  lt_b (x3 + 1) fun x3_16 =>
  some (.inl (x3_16, h_15)))))))
def f_X6_own (a n : Nat) (x2 : Int32) (h : PH) : Option (Unit × PH) :=
  bd_1 (lp_f (fun s => lb_X6_own_2 a n x2 s.1 s.2) fu_l (0, h)) fun s_19 =>
  some ((), s_19.2)
set_option maxRecDepth 100000 in
set_option maxHeartbeats 4000000 in
theorem lw_X6_own_2 {C : GC} (hC : Cx C cX6_own 4 wsX6_own RX6 none (rm_d 1)) (a n : Nat) (x2 : Int32) : ∀ (n9 : Nat) (x3 : Int32) (h : PH) (y : Int32 × PH), lp_f (fun s => lb_X6_own_2 a n x2 s.1 s.2) n9 (x3, h) = some y → (l0_B ++ h.2.2.2)[a]? = some (.inl (0, n)) → ∀ (hk : Go l0_B C 0 0 33 [] [] y.2), Go l0_B C 0 0 2 [(0, .ref 17), (1, .ref a), (2, .int x2), (3, .int x3)] [] h := by
  have hn6 : ∀ w ∈ wsX60, w ∈ wsX6_own := (fun _ hw => (List.mem_cons_of_mem _ (List.mem_append_right _ hw)))
  intro n9
  induction n9 with
  | zero =>
    intro x3 h y hlp
    cases hlp
  | succ n9 ih =>
    intro x3 h y hlp ha hk
    obtain ⟨k9, z, hk9, hf, hy⟩ := lp_e hlp
    cases hk9
    replace hf : lb_X6_own_2 a n x2 x3 h = some z := hf
    unfold lb_X6_own_2 at hf
    refine go_iload_n hC dX6_own_2 rfl 3 rfl ?_
    refine go_aload_n hC dX6_own_3 rfl 1 rfl ?_
    refine go_alen hC ha (Nat.le_of_ble_eq_true rfl) rfl dX6_own_4 ?_
    refine go_icmp_ge hC dX6_own_5 (tgt := 33) (by decide) (fun c_18 => ?_) (fun c_18 => ?_)
    · replace hf := if_t c_18 hf
      obtain rfl := so_1 hf
      obtain rfl := lp_x hy
      refine go_sub [] rfl ?_
      exact hk
    · replace hf := if_f c_18 hf
      refine go_aload_n hC dX6_own_8 rfl 0 rfl ?_
      refine go_aload_n hC dX6_own_9 rfl 1 rfl ?_
      refine go_iload_n hC dX6_own_10 rfl 3 rfl ?_
      obtain ⟨g_10, hf⟩ := ga_e hf
      refine go_iald hC ha g_10 dX6_own_11 ?_
      obtain ⟨r_11, hc, hf⟩ := bd_e1 hf
      refine go_callV hC (c_X6_isPoint (h.1 a x3.toNatClampNeg) h r_11 hc) gX6_own_X6_isPoint rfl ⟨rfl, rfl⟩ 1 e_X6_isPoint ⟨Nat.le_of_ble_eq_true rfl, Nat.le_of_ble_eq_true rfl⟩ (b_17 _) rfl rfl (st := []) (st1 := [.int r_11]) rfl rfl (Nat.le_of_ble_eq_true rfl) ⟨Nat.zero_le _, Nat.zero_le _⟩ dX6_own_12 ?_
      refine go_if_eq hC dX6_own_15 (tgt := 27) (by decide) (fun c_17 => ?_) (fun c_17 => ?_)
      · replace hf := if_t c_17 hf
        obtain ⟨x3_12, ex3_12, hf⟩ := lt_e hf
        refine go_iinc hC dX6_own_27 3 rfl k1_1 ex3_12 (Nat.le_of_ble_eq_true rfl) rfl ?_
        refine go_goto hC dX6_own_30 (tgt := 2) (by decide) ?_
        obtain rfl := so_1 hf
        refine go_sub [1, 2, 3, 0] rfl ?_
        exact ih x3_12 h _ (lp_c hy) ha hk
      · replace hf := if_f c_17 hf
        refine go_aload_n hC dX6_own_18 rfl 0 rfl ?_
        refine go_getr hC (j := 4) (idx := 21) (nm := "owners") (ds := "[I") (b_17 _) rfl rfl hn6 (Nat.le_of_ble_eq_true rfl) rfl rfl (List.mem_cons_of_mem _ (List.mem_append_left _ (List.mem_of_getElem? (i := 0) rfl))) (Or.inl rfl) dX6_own_19 ?_
        refine go_aload_n hC dX6_own_22 rfl 1 rfl ?_
        refine go_iload_n hC dX6_own_23 rfl 3 rfl ?_
        obtain ⟨g_13, hf⟩ := ga_e hf
        refine go_iald hC ha g_13 dX6_own_24 ?_
        refine go_iload_n hC dX6_own_25 rfl 2 rfl ?_
        obtain ⟨g_14, hf⟩ := ga_e hf
        obtain ⟨h_15, eh_15, hf⟩ := lt_e hf
        refine go_iast hC (b_21 _) g_14 dX6_own_26 ?_
        refine go_toph eh_15 ?_
        replace ha : (l0_B ++ h_15.2.2.2)[a]? = some (.inl (0, n)) := by rw [eh_15]; exact ha
        obtain ⟨x3_16, ex3_16, hf⟩ := lt_e hf
        refine go_iinc hC dX6_own_27 3 rfl k1_1 ex3_16 (Nat.le_of_ble_eq_true rfl) rfl ?_
        refine go_goto hC dX6_own_30 (tgt := 2) (by decide) ?_
        obtain rfl := so_1 hf
        refine go_sub [1, 2, 3, 0] rfl ?_
        exact ih x3_16 h_15 _ (lp_c hy) ha hk
theorem e_X6_own : yX6_own.cls = RX6 ∧ yX6_own.cls ≠ "java/lang/invoke/MethodHandle" ∧ yX6_own.cls ≠ "java/lang/invoke/VarHandle" ∧ (parseMethodDescriptor yX6_own.desc).map (fun d => d.parameters.length) = some 2 := by decide +kernel
set_option maxRecDepth 100000 in
set_option maxHeartbeats 4000000 in
theorem c_X6_own (a n : Nat) (x2 : Int32) (h : PH) (h2 : PH) (ha : (l0_B ++ h.2.2.2)[a]? = some (.inl (0, n))) (hf : f_X6_own a n x2 h = some ((), h2)) : Con yX6_own wsX6_own (rm_d 1) l0_B [.ref 17, .ref a, .int x2] h none h2 := by
  have hn6 : ∀ w ∈ wsX60, w ∈ wsX6_own := (fun _ hw => (List.mem_cons_of_mem _ (List.mem_append_right _ hw)))
  refine con_v (cc := cX6_own) (nL := 4) (by decide) rfl (Nat.le_of_ble_eq_true rfl) ?_
  intro C hC hret
  change Go l0_B C 0 0 0 [(0, .ref 17), (1, .ref a), (2, .int x2)] [] h
  unfold f_X6_own at hf
  refine go_iconst hC dX6_own_0 k1_0 ?_
  refine go_istore_n hC dX6_own_1 rfl (Nat.le_of_ble_eq_true rfl) rfl ?_
  obtain ⟨s_19, hl, hf⟩ := bd_e1 hf
  refine go_sub [1, 2, 3, 0] rfl ?_
  refine lw_X6_own_2 hC a n x2 _ 0 h s_19 hl ha ?_
  obtain ⟨-, rfl⟩ := so_2 hf
  exact hret _ _ dX6_own_33
def f_X8_isSheet (x0 : Int32) (h : PH) : Option (Int32) :=
  if x0 < 0 then (
  some 0)
  else (
  if 4 ≤ x0 then (
  some 0)
  else (
  some 1))
theorem e_X8_isSheet : yX8_isSheet.cls ≠ "java/lang/invoke/MethodHandle" ∧ yX8_isSheet.cls ≠ "java/lang/invoke/VarHandle" ∧ (parseMethodDescriptor yX8_isSheet.desc).map (fun d => d.parameters.length) = some 1 := by decide +kernel
set_option maxRecDepth 100000 in
set_option maxHeartbeats 4000000 in
theorem c_X8_isSheet (x0 : Int32) (h : PH) (r : Int32) (hf : f_X8_isSheet x0 h = some r) : Con yX8_isSheet wsX8_isSheet (rm_d 0) l0_B [.int x0] h (some (.int r)) h := by

  refine con_i (ty := .boolean) (cc := cX8_isSheet) (nL := 1) (by decide) rfl (Nat.le_of_ble_eq_true rfl) ?_
  intro C hC hret
  change Go l0_B C 0 0 0 [(0, .int x0)] [] h
  unfold f_X8_isSheet at hf
  refine go_iload_n hC dX8_isSheet_0 rfl 0 rfl ?_
  refine go_if_lt hC dX8_isSheet_1 (tgt := 13) (by decide) (fun c_2 => ?_) (fun c_2 => ?_)
  · replace hf := if_t c_2 hf
    refine go_iconst hC dX8_isSheet_13 k1_0 ?_
    obtain rfl := so_1 hf
    exact hret _ _ (zo_n (Or.inl rfl)) dX8_isSheet_14
  · replace hf := if_f c_2 hf
    refine go_iload_n hC dX8_isSheet_4 rfl 0 rfl ?_
    refine go_iconst hC dX8_isSheet_5 k1_4 ?_
    refine go_icmp_ge hC dX8_isSheet_6 (tgt := 13) (by decide) (fun c_1 => ?_) (fun c_1 => ?_)
    · replace hf := if_t c_1 hf
      refine go_iconst hC dX8_isSheet_13 k1_0 ?_
      obtain rfl := so_1 hf
      exact hret _ _ (zo_n (Or.inl rfl)) dX8_isSheet_14
    · replace hf := if_f c_1 hf
      refine go_iconst hC dX8_isSheet_9 k1_1 ?_
      refine go_goto hC dX8_isSheet_10 (tgt := 14) (by decide) ?_
      obtain rfl := so_1 hf
      exact hret _ _ (zo_n (Or.inr rfl)) dX8_isSheet_14
def f_X8_isLane (x0 : Int32) (h : PH) : Option (Int32) :=
  if x0 < 0 then (
  some 0)
  else (
  if 3 ≤ x0 then (
  some 0)
  else (
  some 1))
theorem e_X8_isLane : yX8_isLane.cls ≠ "java/lang/invoke/MethodHandle" ∧ yX8_isLane.cls ≠ "java/lang/invoke/VarHandle" ∧ (parseMethodDescriptor yX8_isLane.desc).map (fun d => d.parameters.length) = some 1 := by decide +kernel
set_option maxRecDepth 100000 in
set_option maxHeartbeats 4000000 in
theorem c_X8_isLane (x0 : Int32) (h : PH) (r : Int32) (hf : f_X8_isLane x0 h = some r) : Con yX8_isLane wsX8_isLane (rm_d 0) l0_B [.int x0] h (some (.int r)) h := by

  refine con_i (ty := .boolean) (cc := cX8_isLane) (nL := 1) (by decide) rfl (Nat.le_of_ble_eq_true rfl) ?_
  intro C hC hret
  change Go l0_B C 0 0 0 [(0, .int x0)] [] h
  unfold f_X8_isLane at hf
  refine go_iload_n hC dX8_isLane_0 rfl 0 rfl ?_
  refine go_if_lt hC dX8_isLane_1 (tgt := 13) (by decide) (fun c_2 => ?_) (fun c_2 => ?_)
  · replace hf := if_t c_2 hf
    refine go_iconst hC dX8_isLane_13 k1_0 ?_
    obtain rfl := so_1 hf
    exact hret _ _ (zo_n (Or.inl rfl)) dX8_isLane_14
  · replace hf := if_f c_2 hf
    refine go_iload_n hC dX8_isLane_4 rfl 0 rfl ?_
    refine go_iconst hC dX8_isLane_5 k1_3 ?_
    refine go_icmp_ge hC dX8_isLane_6 (tgt := 13) (by decide) (fun c_1 => ?_) (fun c_1 => ?_)
    · replace hf := if_t c_1 hf
      refine go_iconst hC dX8_isLane_13 k1_0 ?_
      obtain rfl := so_1 hf
      exact hret _ _ (zo_n (Or.inl rfl)) dX8_isLane_14
    · replace hf := if_f c_1 hf
      refine go_iconst hC dX8_isLane_9 k1_1 ?_
      refine go_goto hC dX8_isLane_10 (tgt := 14) (by decide) ?_
      obtain rfl := so_1 hf
      exact hret _ _ (zo_n (Or.inr rfl)) dX8_isLane_14
def f_X8_spot (x0 : Int32) (x1 : Int32) (h : PH) : Option (Int32) :=
  some ((x0 * 100) + x1)
theorem e_X8_spot : yX8_spot.cls ≠ "java/lang/invoke/MethodHandle" ∧ yX8_spot.cls ≠ "java/lang/invoke/VarHandle" ∧ (parseMethodDescriptor yX8_spot.desc).map (fun d => d.parameters.length) = some 2 := by decide +kernel
set_option maxRecDepth 100000 in
set_option maxHeartbeats 4000000 in
theorem c_X8_spot (x0 : Int32) (x1 : Int32) (h : PH) (r : Int32) (hf : f_X8_spot x0 x1 h = some r) : Con yX8_spot wsX8_spot (rm_d 0) l0_B [.int x0, .int x1] h (some (.int r)) h := by

  refine con_i (ty := .int) (cc := cX8_spot) (nL := 2) (by decide) rfl (Nat.le_of_ble_eq_true rfl) ?_
  intro C hC hret
  change Go l0_B C 0 0 0 [(0, .int x0), (1, .int x1)] [] h
  unfold f_X8_spot at hf
  refine go_iload_n hC dX8_spot_0 rfl 0 rfl ?_
  refine go_bipush hC dX8_spot_1 k8_100 ?_
  refine go_imul hC dX8_spot_3 ?_
  refine go_iload_n hC dX8_spot_4 rfl 1 rfl ?_
  refine go_iadd hC dX8_spot_5 ?_
  obtain rfl := so_1 hf
  exact hret _ _ rfl dX8_spot_6
def f_X8_cut (x0 : Int32) (x1 : Int32) (h : PH) : Option (Int32) :=
  if x0 = 0 then (
  some x1.toInt8.toInt32)
  else (
  if x0 = 1 then (
  some x1.toInt16.toInt32)
  else (
  some x1))
theorem e_X8_cut : yX8_cut.cls ≠ "java/lang/invoke/MethodHandle" ∧ yX8_cut.cls ≠ "java/lang/invoke/VarHandle" ∧ (parseMethodDescriptor yX8_cut.desc).map (fun d => d.parameters.length) = some 2 := by decide +kernel
set_option maxRecDepth 100000 in
set_option maxHeartbeats 4000000 in
theorem c_X8_cut (x0 : Int32) (x1 : Int32) (h : PH) (r : Int32) (hf : f_X8_cut x0 x1 h = some r) : Con yX8_cut wsX8_cut (rm_d 0) l0_B [.int x0, .int x1] h (some (.int r)) h := by

  refine con_i (ty := .int) (cc := cX8_cut) (nL := 2) (by decide) rfl (Nat.le_of_ble_eq_true rfl) ?_
  intro C hC hret
  change Go l0_B C 0 0 0 [(0, .int x0), (1, .int x1)] [] h
  unfold f_X8_cut at hf
  refine go_iload_n hC dX8_cut_0 rfl 0 rfl ?_
  refine go_if_ne hC dX8_cut_1 (tgt := 7) (by decide) (fun c_2 => ?_) (fun c_2 => ?_)
  · replace hf := if_f c_2 hf
    refine go_iload_n hC dX8_cut_7 rfl 0 rfl ?_
    refine go_iconst hC dX8_cut_8 k1_1 ?_
    refine go_icmp_ne hC dX8_cut_9 (tgt := 17) (by decide) (fun c_1 => ?_) (fun c_1 => ?_)
    · replace hf := if_f c_1 hf
      refine go_iload_n hC dX8_cut_17 rfl 1 rfl ?_
      obtain rfl := so_1 hf
      exact hret _ _ rfl dX8_cut_18
    · replace hf := if_t c_1 hf
      refine go_iload_n hC dX8_cut_12 rfl 1 rfl ?_
      refine go_i2s hC dX8_cut_13 ?_
      refine go_goto hC dX8_cut_14 (tgt := 18) (by decide) ?_
      obtain rfl := so_1 hf
      exact hret _ _ rfl dX8_cut_18
  · replace hf := if_t c_2 hf
    refine go_iload_n hC dX8_cut_4 rfl 1 rfl ?_
    refine go_i2b hC dX8_cut_5 ?_
    obtain rfl := so_1 hf
    exact hret _ _ rfl dX8_cut_6
def f_X8_hasNothing (x1 : Int32) (h : PH) : Option (Int32) :=
  ga_i x1 4 (
  if (h.1 2 x1.toNatClampNeg) = (-1) then (
  some 1)
  else (
  some 0))
theorem e_X8_hasNothing : yX8_hasNothing.cls = RX8 ∧ yX8_hasNothing.cls ≠ "java/lang/invoke/MethodHandle" ∧ yX8_hasNothing.cls ≠ "java/lang/invoke/VarHandle" ∧ (parseMethodDescriptor yX8_hasNothing.desc).map (fun d => d.parameters.length) = some 1 := by decide +kernel
set_option maxRecDepth 100000 in
set_option maxHeartbeats 4000000 in
theorem c_X8_hasNothing (x1 : Int32) (h : PH) (r : Int32) (hf : f_X8_hasNothing x1 h = some r) : Con yX8_hasNothing wsX8_hasNothing (rm_d 0) l0_B [.ref 1, .int x1] h (some (.int r)) h := by
  have hn8 : ∀ w ∈ wsX80, w ∈ wsX8_hasNothing := (fun _ hw => (List.mem_cons_of_mem _ (List.mem_append_right _ hw)))
  refine con_i (ty := .boolean) (cc := cX8_hasNothing) (nL := 2) (by decide) rfl (Nat.le_of_ble_eq_true rfl) ?_
  intro C hC hret
  change Go l0_B C 0 0 0 [(0, .ref 1), (1, .int x1)] [] h
  unfold f_X8_hasNothing at hf
  refine go_aload_n hC dX8_hasNothing_0 rfl 0 rfl ?_
  refine go_getr hC (j := 0) (idx := 9) (nm := "lanes") (ds := "[I") (b_1 _) rfl rfl hn8 (Nat.le_of_ble_eq_true rfl) rfl rfl (List.mem_cons_of_mem _ (List.mem_append_left _ (List.mem_of_getElem? (i := 0) rfl))) (Or.inl rfl) dX8_hasNothing_1 ?_
  refine go_iload_n hC dX8_hasNothing_4 rfl 1 rfl ?_
  obtain ⟨g_1, hf⟩ := ga_e hf
  refine go_iald hC (b_2 _) g_1 dX8_hasNothing_5 ?_
  refine go_iconst hC dX8_hasNothing_6 k1_m1 ?_
  refine go_icmp_ne hC dX8_hasNothing_7 (tgt := 14) (by decide) (fun c_2 => ?_) (fun c_2 => ?_)
  · replace hf := if_f c_2 hf
    refine go_iconst hC dX8_hasNothing_14 k1_0 ?_
    obtain rfl := so_1 hf
    exact hret _ _ (zo_n (Or.inl rfl)) dX8_hasNothing_15
  · replace hf := if_t c_2 hf
    refine go_iconst hC dX8_hasNothing_10 k1_1 ?_
    refine go_goto hC dX8_hasNothing_11 (tgt := 15) (by decide) ?_
    obtain rfl := so_1 hf
    exact hret _ _ (zo_n (Or.inr rfl)) dX8_hasNothing_15
def f_X8_isCell (x1 : Int32) (x2 : Int32) (h : PH) : Option (Int32) :=
  if x2 < 0 then (
  some 0)
  else (
  ga_i x1 4 (
  if (h.1 3 x1.toNatClampNeg) ≤ x2 then (
  some 0)
  else (
  some 1)))
theorem e_X8_isCell : yX8_isCell.cls = RX8 ∧ yX8_isCell.cls ≠ "java/lang/invoke/MethodHandle" ∧ yX8_isCell.cls ≠ "java/lang/invoke/VarHandle" ∧ (parseMethodDescriptor yX8_isCell.desc).map (fun d => d.parameters.length) = some 2 := by decide +kernel
set_option maxRecDepth 100000 in
set_option maxHeartbeats 4000000 in
theorem c_X8_isCell (x1 : Int32) (x2 : Int32) (h : PH) (r : Int32) (hf : f_X8_isCell x1 x2 h = some r) : Con yX8_isCell wsX8_isCell (rm_d 0) l0_B [.ref 1, .int x1, .int x2] h (some (.int r)) h := by
  have hn8 : ∀ w ∈ wsX80, w ∈ wsX8_isCell := (fun _ hw => (List.mem_cons_of_mem _ (List.mem_append_right _ hw)))
  refine con_i (ty := .boolean) (cc := cX8_isCell) (nL := 3) (by decide) rfl (Nat.le_of_ble_eq_true rfl) ?_
  intro C hC hret
  change Go l0_B C 0 0 0 [(0, .ref 1), (1, .int x1), (2, .int x2)] [] h
  unfold f_X8_isCell at hf
  refine go_iload_n hC dX8_isCell_0 rfl 2 rfl ?_
  refine go_if_lt hC dX8_isCell_1 (tgt := 18) (by decide) (fun c_3 => ?_) (fun c_3 => ?_)
  · replace hf := if_t c_3 hf
    refine go_iconst hC dX8_isCell_18 k1_0 ?_
    obtain rfl := so_1 hf
    exact hret _ _ (zo_n (Or.inl rfl)) dX8_isCell_19
  · replace hf := if_f c_3 hf
    refine go_iload_n hC dX8_isCell_4 rfl 2 rfl ?_
    refine go_aload_n hC dX8_isCell_5 rfl 0 rfl ?_
    refine go_getr hC (j := 1) (idx := 15) (nm := "lengths") (ds := "[I") (b_1 _) rfl rfl hn8 (Nat.le_of_ble_eq_true rfl) rfl rfl (List.mem_cons_of_mem _ (List.mem_append_left _ (List.mem_of_getElem? (i := 0) rfl))) (Or.inl rfl) dX8_isCell_6 ?_
    refine go_iload_n hC dX8_isCell_9 rfl 1 rfl ?_
    obtain ⟨g_1, hf⟩ := ga_e hf
    refine go_iald hC (b_3 _) g_1 dX8_isCell_10 ?_
    refine go_icmp_ge hC dX8_isCell_11 (tgt := 18) (by decide) (fun c_2 => ?_) (fun c_2 => ?_)
    · replace hf := if_t c_2 hf
      refine go_iconst hC dX8_isCell_18 k1_0 ?_
      obtain rfl := so_1 hf
      exact hret _ _ (zo_n (Or.inl rfl)) dX8_isCell_19
    · replace hf := if_f c_2 hf
      refine go_iconst hC dX8_isCell_14 k1_1 ?_
      refine go_goto hC dX8_isCell_15 (tgt := 19) (by decide) ?_
      obtain rfl := so_1 hf
      exact hret _ _ (zo_n (Or.inr rfl)) dX8_isCell_19
def f_X8_areCells (x1 : Int32) (x2 : Int32) (x3 : Int32) (h : PH) : Option (Int32) :=
  if x2 < 0 then (
  some 0)
  else (
  ga_i x1 4 (
  if (h.1 3 x1.toNatClampNeg) < x2 then (
  some 0)
  else (
  ga_i x1 4 (
  if ((h.1 3 x1.toNatClampNeg) - x2) < x3 then (
  some 0)
  else (
  some 1)))))
theorem e_X8_areCells : yX8_areCells.cls = RX8 ∧ yX8_areCells.cls ≠ "java/lang/invoke/MethodHandle" ∧ yX8_areCells.cls ≠ "java/lang/invoke/VarHandle" ∧ (parseMethodDescriptor yX8_areCells.desc).map (fun d => d.parameters.length) = some 3 := by decide +kernel
set_option maxRecDepth 100000 in
set_option maxHeartbeats 4000000 in
theorem c_X8_areCells (x1 : Int32) (x2 : Int32) (x3 : Int32) (h : PH) (r : Int32) (hf : f_X8_areCells x1 x2 x3 h = some r) : Con yX8_areCells wsX8_areCells (rm_d 0) l0_B [.ref 1, .int x1, .int x2, .int x3] h (some (.int r)) h := by
  have hn8 : ∀ w ∈ wsX80, w ∈ wsX8_areCells := (fun _ hw => (List.mem_cons_of_mem _ (List.mem_append_right _ hw)))
  refine con_i (ty := .boolean) (cc := cX8_areCells) (nL := 4) (by decide) rfl (Nat.le_of_ble_eq_true rfl) ?_
  intro C hC hret
  change Go l0_B C 0 0 0 [(0, .ref 1), (1, .int x1), (2, .int x2), (3, .int x3)] [] h
  unfold f_X8_areCells at hf
  refine go_iload_n hC dX8_areCells_0 rfl 2 rfl ?_
  refine go_if_lt hC dX8_areCells_1 (tgt := 30) (by decide) (fun c_5 => ?_) (fun c_5 => ?_)
  · replace hf := if_t c_5 hf
    refine go_iconst hC dX8_areCells_30 k1_0 ?_
    obtain rfl := so_1 hf
    exact hret _ _ (zo_n (Or.inl rfl)) dX8_areCells_31
  · replace hf := if_f c_5 hf
    refine go_iload_n hC dX8_areCells_4 rfl 2 rfl ?_
    refine go_aload_n hC dX8_areCells_5 rfl 0 rfl ?_
    refine go_getr hC (j := 1) (idx := 15) (nm := "lengths") (ds := "[I") (b_1 _) rfl rfl hn8 (Nat.le_of_ble_eq_true rfl) rfl rfl (List.mem_cons_of_mem _ (List.mem_append_left _ (List.mem_of_getElem? (i := 0) rfl))) (Or.inl rfl) dX8_areCells_6 ?_
    refine go_iload_n hC dX8_areCells_9 rfl 1 rfl ?_
    obtain ⟨g_1, hf⟩ := ga_e hf
    refine go_iald hC (b_3 _) g_1 dX8_areCells_10 ?_
    refine go_icmp_gt hC dX8_areCells_11 (tgt := 30) (by decide) (fun c_4 => ?_) (fun c_4 => ?_)
    · replace hf := if_t c_4 hf
      refine go_iconst hC dX8_areCells_30 k1_0 ?_
      obtain rfl := so_1 hf
      exact hret _ _ (zo_n (Or.inl rfl)) dX8_areCells_31
    · replace hf := if_f c_4 hf
      refine go_iload_n hC dX8_areCells_14 rfl 3 rfl ?_
      refine go_aload_n hC dX8_areCells_15 rfl 0 rfl ?_
      refine go_getr hC (j := 1) (idx := 15) (nm := "lengths") (ds := "[I") (b_1 _) rfl rfl hn8 (Nat.le_of_ble_eq_true rfl) rfl rfl (List.mem_cons_of_mem _ (List.mem_append_left _ (List.mem_of_getElem? (i := 0) rfl))) (Or.inl rfl) dX8_areCells_16 ?_
      refine go_iload_n hC dX8_areCells_19 rfl 1 rfl ?_
      obtain ⟨g_2, hf⟩ := ga_e hf
      refine go_iald hC (b_3 _) g_2 dX8_areCells_20 ?_
      refine go_iload_n hC dX8_areCells_21 rfl 2 rfl ?_
      refine go_isub hC dX8_areCells_22 ?_
      refine go_icmp_gt hC dX8_areCells_23 (tgt := 30) (by decide) (fun c_3 => ?_) (fun c_3 => ?_)
      · replace hf := if_t c_3 hf
        refine go_iconst hC dX8_areCells_30 k1_0 ?_
        obtain rfl := so_1 hf
        exact hret _ _ (zo_n (Or.inl rfl)) dX8_areCells_31
      · replace hf := if_f c_3 hf
        refine go_iconst hC dX8_areCells_26 k1_1 ?_
        refine go_goto hC dX8_areCells_27 (tgt := 31) (by decide) ?_
        obtain rfl := so_1 hf
        exact hret _ _ (zo_n (Or.inr rfl)) dX8_areCells_31
def f_X8_faultOfRow (x1 : Int32) (x2 : Int32) (h : PH) : Option (Int32) :=
  bd_1 (f_X8_hasNothing x1 h) fun r_1 =>
  if r_1 = 0 then (
  ga_i x1 4 (
  if (h.1 2 x1.toNatClampNeg) = x2 then (
  some 0)
  else (
  some 2)))
  else (
  some 1)
theorem e_X8_faultOfRow : yX8_faultOfRow.cls = RX8 ∧ yX8_faultOfRow.cls ≠ "java/lang/invoke/MethodHandle" ∧ yX8_faultOfRow.cls ≠ "java/lang/invoke/VarHandle" ∧ (parseMethodDescriptor yX8_faultOfRow.desc).map (fun d => d.parameters.length) = some 2 := by decide +kernel
set_option maxRecDepth 100000 in
set_option maxHeartbeats 4000000 in
theorem c_X8_faultOfRow (x1 : Int32) (x2 : Int32) (h : PH) (r : Int32) (hf : f_X8_faultOfRow x1 x2 h = some r) : Con yX8_faultOfRow wsX8_faultOfRow (rm_d 1) l0_B [.ref 1, .int x1, .int x2] h (some (.int r)) h := by
  have hn8 : ∀ w ∈ wsX80, w ∈ wsX8_faultOfRow := (fun _ hw => (List.mem_cons_of_mem _ (List.mem_append_right _ hw)))
  refine con_i (ty := .int) (cc := cX8_faultOfRow) (nL := 3) (by decide) rfl (Nat.le_of_ble_eq_true rfl) ?_
  intro C hC hret
  change Go l0_B C 0 0 0 [(0, .ref 1), (1, .int x1), (2, .int x2)] [] h
  unfold f_X8_faultOfRow at hf
  refine go_aload_n hC dX8_faultOfRow_0 rfl 0 rfl ?_
  refine go_iload_n hC dX8_faultOfRow_1 rfl 1 rfl ?_
  obtain ⟨r_1, hc, hf⟩ := bd_e1 hf
  refine go_callV hC (c_X8_hasNothing x1 h r_1 hc) gX8_faultOfRow_X8_hasNothing rfl ⟨rfl, rfl⟩ 1 e_X8_hasNothing ⟨Nat.le_of_ble_eq_true rfl, Nat.le_of_ble_eq_true rfl⟩ (b_1 _) rfl rfl (st := []) (st1 := [.int r_1]) rfl rfl (Nat.le_of_ble_eq_true rfl) ⟨Nat.zero_le _, Nat.zero_le _⟩ dX8_faultOfRow_2 ?_
  refine go_if_eq hC dX8_faultOfRow_5 (tgt := 10) (by decide) (fun c_4 => ?_) (fun c_4 => ?_)
  · replace hf := if_t c_4 hf
    refine go_aload_n hC dX8_faultOfRow_10 rfl 0 rfl ?_
    refine go_getr hC (j := 0) (idx := 9) (nm := "lanes") (ds := "[I") (b_1 _) rfl rfl hn8 (Nat.le_of_ble_eq_true rfl) rfl rfl (List.mem_cons_of_mem _ (List.mem_append_left _ (List.mem_of_getElem? (i := 0) rfl))) (Or.inl rfl) dX8_faultOfRow_11 ?_
    refine go_iload_n hC dX8_faultOfRow_14 rfl 1 rfl ?_
    obtain ⟨g_2, hf⟩ := ga_e hf
    refine go_iald hC (b_2 _) g_2 dX8_faultOfRow_15 ?_
    refine go_iload_n hC dX8_faultOfRow_16 rfl 2 rfl ?_
    refine go_icmp_ne hC dX8_faultOfRow_17 (tgt := 24) (by decide) (fun c_3 => ?_) (fun c_3 => ?_)
    · replace hf := if_f c_3 hf
      refine go_iconst hC dX8_faultOfRow_24 k1_2 ?_
      obtain rfl := so_1 hf
      exact hret _ _ rfl dX8_faultOfRow_25
    · replace hf := if_t c_3 hf
      refine go_iconst hC dX8_faultOfRow_20 k1_0 ?_
      refine go_goto hC dX8_faultOfRow_21 (tgt := 25) (by decide) ?_
      obtain rfl := so_1 hf
      exact hret _ _ rfl dX8_faultOfRow_25
  · replace hf := if_f c_4 hf
    refine go_iconst hC dX8_faultOfRow_8 k1_1 ?_
    obtain rfl := so_1 hf
    exact hret _ _ rfl dX8_faultOfRow_9
def f_X8_faultOfCells (x1 : Int32) (x2 : Int32) (x3 : Int32) (x4 : Int32) (h : PH) : Option (Int32) :=
  bd_1 (f_X8_faultOfRow x1 x2 h) fun r_1 =>
  if r_1 = 0 then (
  if 0 ≤ x4 then (
  bd_1 (f_X8_areCells x1 x3 x4 h) fun r_2 =>
  if r_2 = 0 then (
  some 3)
  else (
  some 0))
  else (
  some 4))
  else (
  some r_1)
theorem e_X8_faultOfCells : yX8_faultOfCells.cls = RX8 ∧ yX8_faultOfCells.cls ≠ "java/lang/invoke/MethodHandle" ∧ yX8_faultOfCells.cls ≠ "java/lang/invoke/VarHandle" ∧ (parseMethodDescriptor yX8_faultOfCells.desc).map (fun d => d.parameters.length) = some 4 := by decide +kernel
set_option maxRecDepth 100000 in
set_option maxHeartbeats 4000000 in
theorem c_X8_faultOfCells (x1 : Int32) (x2 : Int32) (x3 : Int32) (x4 : Int32) (h : PH) (r : Int32) (hf : f_X8_faultOfCells x1 x2 x3 x4 h = some r) : Con yX8_faultOfCells wsX8_faultOfCells (rm_d 2) l0_B [.ref 1, .int x1, .int x2, .int x3, .int x4] h (some (.int r)) h := by

  refine con_i (ty := .int) (cc := cX8_faultOfCells) (nL := 6) (by decide) rfl (Nat.le_of_ble_eq_true rfl) ?_
  intro C hC hret
  change Go l0_B C 0 0 0 [(0, .ref 1), (1, .int x1), (2, .int x2), (3, .int x3), (4, .int x4)] [] h
  unfold f_X8_faultOfCells at hf
  refine go_aload_n hC dX8_faultOfCells_0 rfl 0 rfl ?_
  refine go_iload_n hC dX8_faultOfCells_1 rfl 1 rfl ?_
  refine go_iload_n hC dX8_faultOfCells_2 rfl 2 rfl ?_
  obtain ⟨r_1, hc, hf⟩ := bd_e1 hf
  refine go_callV hC (c_X8_faultOfRow x1 x2 h r_1 hc) gX8_faultOfCells_X8_faultOfRow rfl ⟨rfl, rfl⟩ 2 e_X8_faultOfRow ⟨Nat.le_of_ble_eq_true rfl, Nat.le_of_ble_eq_true rfl⟩ (b_1 _) rfl rfl (st := []) (st1 := [.int r_1]) rfl rfl (Nat.le_of_ble_eq_true rfl) ⟨Nat.zero_le _, Nat.zero_le _⟩ dX8_faultOfCells_3 ?_
  refine go_istore hC dX8_faultOfCells_6 (Nat.le_of_ble_eq_true rfl) rfl ?_
  refine go_iload hC dX8_faultOfCells_8 0 rfl ?_
  refine go_if_eq hC dX8_faultOfCells_10 (tgt := 16) (by decide) (fun c_5 => ?_) (fun c_5 => ?_)
  · replace hf := if_t c_5 hf
    refine go_iload hC dX8_faultOfCells_16 5 rfl ?_
    refine go_if_ge hC dX8_faultOfCells_18 (tgt := 23) (by decide) (fun c_4 => ?_) (fun c_4 => ?_)
    · replace hf := if_t c_4 hf
      refine go_aload_n hC dX8_faultOfCells_23 rfl 1 rfl ?_
      refine go_iload_n hC dX8_faultOfCells_24 rfl 2 rfl ?_
      refine go_iload_n hC dX8_faultOfCells_25 rfl 4 rfl ?_
      refine go_iload hC dX8_faultOfCells_26 5 rfl ?_
      obtain ⟨r_2, hc, hf⟩ := bd_e1 hf
      refine go_callV hC (c_X8_areCells x1 x3 x4 h r_2 hc) gX8_faultOfCells_X8_areCells rfl ⟨rfl, rfl⟩ 3 e_X8_areCells ⟨Nat.le_of_ble_eq_true rfl, Nat.le_of_ble_eq_true rfl⟩ (b_1 _) rfl rfl (st := []) (st1 := [.int r_2]) rfl rfl (Nat.le_of_ble_eq_true rfl) ⟨Nat.zero_le _, Nat.zero_le _⟩ dX8_faultOfCells_28 ?_
      refine go_if_eq hC dX8_faultOfCells_31 (tgt := 38) (by decide) (fun c_3 => ?_) (fun c_3 => ?_)
      · replace hf := if_t c_3 hf
        refine go_iconst hC dX8_faultOfCells_38 k1_3 ?_
        obtain rfl := so_1 hf
        exact hret _ _ rfl dX8_faultOfCells_39
      · replace hf := if_f c_3 hf
        refine go_iconst hC dX8_faultOfCells_34 k1_0 ?_
        refine go_goto hC dX8_faultOfCells_35 (tgt := 39) (by decide) ?_
        obtain rfl := so_1 hf
        exact hret _ _ rfl dX8_faultOfCells_39
    · replace hf := if_f c_4 hf
      refine go_iconst hC dX8_faultOfCells_21 k1_4 ?_
      obtain rfl := so_1 hf
      exact hret _ _ rfl dX8_faultOfCells_22
  · replace hf := if_f c_5 hf
    refine go_iload hC dX8_faultOfCells_13 0 rfl ?_
    obtain rfl := so_1 hf
    exact hret _ _ rfl dX8_faultOfCells_15
def lb_X8_renew_17 (x1 : Int32) (x3 : Int32) (x4 : Int32) (h : PH) : Option ((Int32 × PH) ⊕ (Int32 × PH)) :=
  if x3 ≤ x4 then (
  some (.inr (x4, h)))
  else (
  bd_1 (f_X8_spot x1 x4 h) fun r_10 =>
  ga_i r_10 400 (
  lt_b (ph_i h 4 r_10.toNatClampNeg 0) fun h_12 =>
  lt_b (x4 + 1) fun x4_13 =>
  some (.inl (x4_13, h_12))))
def f_X8_renew (x1 : Int32) (x2 : Int32) (x3 : Int32) (h : PH) : Option (Unit × PH) :=
  ga_i x1 4 (
  lt_b (ph_i h 2 x1.toNatClampNeg x2) fun h_2 =>
  ga_i x1 4 (
  lt_b (ph_i h_2 3 x1.toNatClampNeg x3) fun h_4 =>
  bd_1 (lp_f (fun s => lb_X8_renew_17 x1 x3 s.1 s.2) fu_l (0, h_4)) fun s_15 =>
  some ((), s_15.2)))
set_option maxRecDepth 100000 in
set_option maxHeartbeats 4000000 in
theorem lw_X8_renew_17 {C : GC} (hC : Cx C cX8_renew 5 wsX8_renew RX8 none (rm_d 1)) (x1 : Int32) (x3 : Int32) : ∀ (n9 : Nat) (x4 : Int32) (h : PH) (y : Int32 × PH), lp_f (fun s => lb_X8_renew_17 x1 x3 s.1 s.2) n9 (x4, h) = some y → ∀ (hk : Go l0_B C 0 0 41 [] [] y.2), Go l0_B C 0 0 17 [(0, .ref 1), (1, .int x1), (3, .int x3), (4, .int x4)] [] h := by
  have hn8 : ∀ w ∈ wsX80, w ∈ wsX8_renew := (fun _ hw => (List.mem_cons_of_mem _ (List.mem_append_right _ hw)))
  intro n9
  induction n9 with
  | zero =>
    intro x4 h y hlp
    cases hlp
  | succ n9 ih =>
    intro x4 h y hlp hk
    obtain ⟨k9, z, hk9, hf, hy⟩ := lp_e hlp
    cases hk9
    replace hf : lb_X8_renew_17 x1 x3 x4 h = some z := hf
    unfold lb_X8_renew_17 at hf
    refine go_iload hC dX8_renew_17 3 rfl ?_
    refine go_iload_n hC dX8_renew_19 rfl 2 rfl ?_
    refine go_icmp_ge hC dX8_renew_20 (tgt := 41) (by decide) (fun c_14 => ?_) (fun c_14 => ?_)
    · replace hf := if_t c_14 hf
      obtain rfl := so_1 hf
      obtain rfl := lp_x hy
      refine go_sub [] rfl ?_
      exact hk
    · replace hf := if_f c_14 hf
      refine go_aload_n hC dX8_renew_23 rfl 0 rfl ?_
      refine go_getr hC (j := 2) (idx := 18) (nm := "cells") (ds := "[I") (b_1 _) rfl rfl hn8 (Nat.le_of_ble_eq_true rfl) rfl rfl (List.mem_cons_of_mem _ (List.mem_append_left _ (List.mem_of_getElem? (i := 2) rfl))) (Or.inl rfl) dX8_renew_24 ?_
      refine go_iload_n hC dX8_renew_27 rfl 1 rfl ?_
      refine go_iload hC dX8_renew_28 3 rfl ?_
      obtain ⟨r_10, hc, hf⟩ := bd_e1 hf
      refine go_callS hC (c_X8_spot x1 x4 h r_10 hc) gX8_renew_X8_spot rfl ⟨rfl, rfl⟩ 2 e_X8_spot ⟨Nat.le_of_ble_eq_true rfl, Nat.le_of_ble_eq_true rfl⟩ rfl (st := [.ref 4]) (st1 := [.int r_10, .ref 4]) rfl rfl (Nat.le_of_ble_eq_true rfl) ⟨Nat.zero_le _, Nat.zero_le _⟩ dX8_renew_30 ?_
      refine go_iconst hC dX8_renew_33 k1_0 ?_
      obtain ⟨g_11, hf⟩ := ga_e hf
      obtain ⟨h_12, eh_12, hf⟩ := lt_e hf
      refine go_iast hC (b_4 _) g_11 dX8_renew_34 ?_
      refine go_toph eh_12 ?_
      obtain ⟨x4_13, ex4_13, hf⟩ := lt_e hf
      refine go_iinc hC dX8_renew_35 3 rfl k1_1 ex4_13 (Nat.le_of_ble_eq_true rfl) rfl ?_
      refine go_goto hC dX8_renew_38 (tgt := 17) (by decide) ?_
      obtain rfl := so_1 hf
      refine go_sub [1, 2, 3, 0] rfl ?_
      exact ih x4_13 h_12 _ (lp_c hy) hk
theorem e_X8_renew : yX8_renew.cls = RX8 ∧ yX8_renew.cls ≠ "java/lang/invoke/MethodHandle" ∧ yX8_renew.cls ≠ "java/lang/invoke/VarHandle" ∧ (parseMethodDescriptor yX8_renew.desc).map (fun d => d.parameters.length) = some 3 := by decide +kernel
set_option maxRecDepth 100000 in
set_option maxHeartbeats 4000000 in
theorem c_X8_renew (x1 : Int32) (x2 : Int32) (x3 : Int32) (h : PH) (h2 : PH) (hf : f_X8_renew x1 x2 x3 h = some ((), h2)) : Con yX8_renew wsX8_renew (rm_d 1) l0_B [.ref 1, .int x1, .int x2, .int x3] h none h2 := by
  have hn8 : ∀ w ∈ wsX80, w ∈ wsX8_renew := (fun _ hw => (List.mem_cons_of_mem _ (List.mem_append_right _ hw)))
  refine con_v (cc := cX8_renew) (nL := 5) (by decide) rfl (Nat.le_of_ble_eq_true rfl) ?_
  intro C hC hret
  change Go l0_B C 0 0 0 [(0, .ref 1), (1, .int x1), (2, .int x2), (3, .int x3)] [] h
  unfold f_X8_renew at hf
  refine go_aload_n hC dX8_renew_0 rfl 0 rfl ?_
  refine go_getr hC (j := 0) (idx := 9) (nm := "lanes") (ds := "[I") (b_1 _) rfl rfl hn8 (Nat.le_of_ble_eq_true rfl) rfl rfl (List.mem_cons_of_mem _ (List.mem_append_left _ (List.mem_of_getElem? (i := 0) rfl))) (Or.inl rfl) dX8_renew_1 ?_
  refine go_iload_n hC dX8_renew_4 rfl 1 rfl ?_
  refine go_iload_n hC dX8_renew_5 rfl 2 rfl ?_
  obtain ⟨g_1, hf⟩ := ga_e hf
  obtain ⟨h_2, eh_2, hf⟩ := lt_e hf
  refine go_iast hC (b_2 _) g_1 dX8_renew_6 ?_
  refine go_toph eh_2 ?_
  refine go_aload_n hC dX8_renew_7 rfl 0 rfl ?_
  refine go_getr hC (j := 1) (idx := 15) (nm := "lengths") (ds := "[I") (b_1 _) rfl rfl hn8 (Nat.le_of_ble_eq_true rfl) rfl rfl (List.mem_cons_of_mem _ (List.mem_append_left _ (List.mem_of_getElem? (i := 1) rfl))) (Or.inl rfl) dX8_renew_8 ?_
  refine go_iload_n hC dX8_renew_11 rfl 1 rfl ?_
  refine go_iload_n hC dX8_renew_12 rfl 3 rfl ?_
  obtain ⟨g_3, hf⟩ := ga_e hf
  obtain ⟨h_4, eh_4, hf⟩ := lt_e hf
  refine go_iast hC (b_3 _) g_3 dX8_renew_13 ?_
  refine go_toph eh_4 ?_
  refine go_iconst hC dX8_renew_14 k1_0 ?_
  refine go_istore hC dX8_renew_15 (Nat.le_of_ble_eq_true rfl) rfl ?_
  obtain ⟨s_15, hl, hf⟩ := bd_e1 hf
  refine go_sub [1, 2, 4, 0] rfl ?_
  refine lw_X8_renew_17 hC x1 x3 _ 0 h_4 s_15 hl ?_
  obtain ⟨-, rfl⟩ := so_2 hf
  exact hret _ _ dX8_renew_41
