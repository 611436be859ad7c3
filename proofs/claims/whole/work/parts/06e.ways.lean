def f_X1_kind (ci a n o : Nat) (h : PH) : Option (Int32) :=
  some 0
theorem e_X1_kind : yX1_kind.cls = RX1 ∧ yX1_kind.cls ≠ "java/lang/invoke/MethodHandle" ∧ yX1_kind.cls ≠ "java/lang/invoke/VarHandle" ∧ (parseMethodDescriptor yX1_kind.desc).map (fun d => d.parameters.length) = some 0 := by decide +kernel
set_option maxRecDepth 100000 in
set_option maxHeartbeats 4000000 in
theorem c_X1_kind_X1 (a n o : Nat) (h : PH) (r : Int32) (ho : (l0_B ++ h.2.2.2)[o]? = some (.inr (1, [(0, 0), (0, 0), (2, a)]))) (ha : (l0_B ++ h.2.2.2)[a]? = some (.inl (0, n))) (hf : f_X1_kind 1 a n o h = some r) : Con yX1_kind wsX1_kind (rm_d 0) l0_B [.ref o] h (some (.int r)) h := by

  refine con_i (ty := .int) (cc := cX1_kind) (nL := 1) (by decide) rfl (Nat.le_of_ble_eq_true rfl) ?_
  intro C hC hret
  change Go l0_B C 0 0 0 [(0, .ref o)] [] h
  unfold f_X1_kind at hf
  refine go_iconst hC dX1_kind_0 k1_0 ?_
  obtain rfl := so_1 hf
  exact hret _ _ rfl dX1_kind_1
def f_X1_pieces (ci a n o : Nat) (h : PH) : Option (Int32) :=
  gz_i (h.1 o 2) (
  some (Int32.ofNat n))
theorem e_X1_pieces : yX1_pieces.cls = RX1 ∧ yX1_pieces.cls ≠ "java/lang/invoke/MethodHandle" ∧ yX1_pieces.cls ≠ "java/lang/invoke/VarHandle" ∧ (parseMethodDescriptor yX1_pieces.desc).map (fun d => d.parameters.length) = some 0 := by decide +kernel
set_option maxRecDepth 100000 in
set_option maxHeartbeats 4000000 in
theorem c_X1_pieces_X1 (a n o : Nat) (h : PH) (r : Int32) (ho : (l0_B ++ h.2.2.2)[o]? = some (.inr (1, [(0, 0), (0, 0), (2, a)]))) (ha : (l0_B ++ h.2.2.2)[a]? = some (.inl (0, n))) (hf : f_X1_pieces 1 a n o h = some r) : Con yX1_pieces wsX1_pieces (rm_d 0) l0_B [.ref o] h (some (.int r)) h := by
  have hn1 : ∀ w ∈ wsX10, w ∈ wsX1_pieces := (fun _ hw => (List.mem_cons_of_mem _ (List.mem_append_left _ (List.mem_append_left _ (List.mem_append_right _ hw)))))
  refine con_i (ty := .int) (cc := cX1_pieces) (nL := 1) (by decide) rfl (Nat.le_of_ble_eq_true rfl) ?_
  intro C hC hret
  change Go l0_B C 0 0 0 [(0, .ref o)] [] h
  unfold f_X1_pieces at hf
  refine go_aload_n hC dX1_pieces_0 rfl 0 rfl ?_
  obtain ⟨g_1, hf⟩ := gz_e hf
  refine go_geto hC (j := 2) (idx := 18) (nm := "stops") (ds := "[I") ho rfl rfl hn1 (Nat.le_of_ble_eq_true rfl) rfl rfl (List.mem_cons_of_mem _ (List.mem_append_left _ (List.mem_append_left _ (List.mem_append_left _ (List.mem_of_getElem? (i := 0) rfl))))) (Or.inl rfl) g_1 dX1_pieces_1 ?_
  refine go_alen hC ha (Nat.le_of_ble_eq_true rfl) rfl dX1_pieces_4 ?_
  obtain rfl := so_1 hf
  exact hret _ _ rfl dX1_pieces_5
def f_X1_strands (ci a n o : Nat) (h : PH) : Option (Int32) :=
  some 1
theorem e_X1_strands : yX1_strands.cls = RX1 ∧ yX1_strands.cls ≠ "java/lang/invoke/MethodHandle" ∧ yX1_strands.cls ≠ "java/lang/invoke/VarHandle" ∧ (parseMethodDescriptor yX1_strands.desc).map (fun d => d.parameters.length) = some 0 := by decide +kernel
set_option maxRecDepth 100000 in
set_option maxHeartbeats 4000000 in
theorem c_X1_strands_X1 (a n o : Nat) (h : PH) (r : Int32) (ho : (l0_B ++ h.2.2.2)[o]? = some (.inr (1, [(0, 0), (0, 0), (2, a)]))) (ha : (l0_B ++ h.2.2.2)[a]? = some (.inl (0, n))) (hf : f_X1_strands 1 a n o h = some r) : Con yX1_strands wsX1_strands (rm_d 0) l0_B [.ref o] h (some (.int r)) h := by

  refine con_i (ty := .int) (cc := cX1_strands) (nL := 1) (by decide) rfl (Nat.le_of_ble_eq_true rfl) ?_
  intro C hC hret
  change Go l0_B C 0 0 0 [(0, .ref o)] [] h
  unfold f_X1_strands at hf
  refine go_iconst hC dX1_strands_0 k1_1 ?_
  obtain rfl := so_1 hf
  exact hret _ _ rfl dX1_strands_1
set_option maxRecDepth 100000 in
set_option maxHeartbeats 4000000 in
theorem c_X1_strands_X7 (a n o : Nat) (h : PH) (r : Int32) (ho : (l0_B ++ h.2.2.2)[o]? = some (.inr (7, [(0, 0), (0, 0), (2, a)]))) (ha : (l0_B ++ h.2.2.2)[a]? = some (.inl (0, n))) (hf : f_X1_strands 7 a n o h = some r) : Con yX1_strands wsX1_strands (rm_d 0) l0_B [.ref o] h (some (.int r)) h := by

  refine con_i (ty := .int) (cc := cX1_strands) (nL := 1) (by decide) rfl (Nat.le_of_ble_eq_true rfl) ?_
  intro C hC hret
  change Go l0_B C 0 0 0 [(0, .ref o)] [] h
  unfold f_X1_strands at hf
  refine go_iconst hC dX1_strands_0 k1_1 ?_
  obtain rfl := so_1 hf
  exact hret _ _ rfl dX1_strands_1
def f_X1_carriedLower (ci a n o : Nat) (h : PH) : Option (Int64) :=
  some 1
theorem e_X1_carriedLower : yX1_carriedLower.cls = RX1 ∧ yX1_carriedLower.cls ≠ "java/lang/invoke/MethodHandle" ∧ yX1_carriedLower.cls ≠ "java/lang/invoke/VarHandle" ∧ (parseMethodDescriptor yX1_carriedLower.desc).map (fun d => d.parameters.length) = some 2 := by decide +kernel
set_option maxRecDepth 100000 in
set_option maxHeartbeats 4000000 in
theorem c_X1_carriedLower_X1 (a n o : Nat) (h : PH) (r : Int64) (ho : (l0_B ++ h.2.2.2)[o]? = some (.inr (1, [(0, 0), (0, 0), (2, a)]))) (ha : (l0_B ++ h.2.2.2)[a]? = some (.inl (0, n))) (hf : f_X1_carriedLower 1 a n o h = some r) : Con yX1_carriedLower wsX1_carriedLower (rm_d 0) l0_B [.ref o, .ref 10, .ref 17] h (some (.long r)) h := by

  refine con_l (cc := cX1_carriedLower) (nL := 3) (by decide) rfl (Nat.le_of_ble_eq_true rfl) ?_
  intro C hC hret
  change Go l0_B C 0 0 0 [(0, .ref o), (1, .ref 10), (2, .ref 17)] [] h
  unfold f_X1_carriedLower at hf
  refine go_lconst hC dX1_carriedLower_0 (v := 1) rfl ?_
  obtain rfl := so_1 hf
  exact hret _ _ dX1_carriedLower_1
def lb_X1_loadsAhead_5 (ci a n o : Nat) (x1 : Int32) (h : PH) (x3 : Int32) (x4 : Int32) : Option ((Int32 × Int32) ⊕ (Int32 × Int32)) :=
  if x1 ≤ x4 then (
  some (.inr (x3, x4)))
  else (
  gz_i (h.1 o 2) (
  if (Int32.ofNat n) ≤ x4 then (
  some (.inr (x3, x4)))
  else (
  gz_i (h.1 o 2) (
  ga_i x4 n (
  ga_i (h.1 a x4.toNatClampNeg) 8 (
  lt_b (x3 + (h.1 19 (h.1 a x4.toNatClampNeg).toNatClampNeg)) fun x3_13 =>
  lt_b (x4 + 1) fun x4_14 =>
  some (.inl (x3_13, x4_14))))))))
def f_X1_loadsAhead (ci a n o : Nat) (x1 : Int32) (h : PH) : Option (Int32) :=
  bd_1 (lp_f (fun s => lb_X1_loadsAhead_5 ci a n o x1 h s.1 s.2) fu_l (0, 0)) fun s_17 =>
  some s_17.1
set_option maxRecDepth 100000 in
set_option maxHeartbeats 4000000 in
theorem lw_X1_loadsAhead_5_X1 {C : GC} (hC : Cx C cX1_loadsAhead 5 wsX1_loadsAhead RX1 (some .int) (rm_d 0)) (a n o : Nat) (x1 : Int32) (h : PH) : ∀ (n9 : Nat) (x3 : Int32) (x4 : Int32) (y : Int32 × Int32), lp_f (fun s => lb_X1_loadsAhead_5 1 a n o x1 h s.1 s.2) n9 (x3, x4) = some y → (l0_B ++ h.2.2.2)[o]? = some (.inr (1, [(0, 0), (0, 0), (2, a)])) → (l0_B ++ h.2.2.2)[a]? = some (.inl (0, n)) → ∀ (hk : Go l0_B C 0 0 42 [(3, .int y.1)] [] h), Go l0_B C 0 0 5 [(0, .ref o), (1, .int x1), (2, .ref 17), (3, .int x3), (4, .int x4)] [] h := by
  have hn1 : ∀ w ∈ wsX10, w ∈ wsX1_loadsAhead := (fun _ hw => (List.mem_cons_of_mem _ (List.mem_append_left _ (List.mem_append_left _ (List.mem_append_left _ (List.mem_append_right _ hw))))))
  have hn6 : ∀ w ∈ wsX60, w ∈ wsX1_loadsAhead := (fun _ hw => (List.mem_cons_of_mem _ (List.mem_append_right _ hw)))
  intro n9
  induction n9 with
  | zero =>
    intro x3 x4 y hlp
    cases hlp
  | succ n9 ih =>
    intro x3 x4 y hlp ho ha hk
    obtain ⟨k9, z, hk9, hf, hy⟩ := lp_e hlp
    cases hk9
    replace hf : lb_X1_loadsAhead_5 1 a n o x1 h x3 x4 = some z := hf
    unfold lb_X1_loadsAhead_5 at hf
    refine go_iload hC dX1_loadsAhead_5 4 rfl ?_
    refine go_iload_n hC dX1_loadsAhead_7 rfl 1 rfl ?_
    refine go_icmp_ge hC dX1_loadsAhead_8 (tgt := 42) (by decide) (fun c_16 => ?_) (fun c_16 => ?_)
    · replace hf := if_t c_16 hf
      obtain rfl := so_1 hf
      obtain rfl := lp_x hy
      refine go_sub [3] rfl ?_
      exact hk
    · replace hf := if_f c_16 hf
      refine go_iload hC dX1_loadsAhead_11 4 rfl ?_
      refine go_aload_n hC dX1_loadsAhead_13 rfl 0 rfl ?_
      obtain ⟨g_9, hf⟩ := gz_e hf
      refine go_geto hC (j := 2) (idx := 18) (nm := "stops") (ds := "[I") ho rfl rfl hn1 (Nat.le_of_ble_eq_true rfl) rfl rfl (List.mem_cons_of_mem _ (List.mem_append_left _ (List.mem_append_left _ (List.mem_append_left _ (List.mem_append_left _ (List.mem_of_getElem? (i := 0) rfl)))))) (Or.inl rfl) g_9 dX1_loadsAhead_14 ?_
      refine go_alen hC ha (Nat.le_of_ble_eq_true rfl) rfl dX1_loadsAhead_17 ?_
      refine go_icmp_ge hC dX1_loadsAhead_18 (tgt := 42) (by decide) (fun c_15 => ?_) (fun c_15 => ?_)
      · replace hf := if_t c_15 hf
        obtain rfl := so_1 hf
        obtain rfl := lp_x hy
        refine go_sub [3] rfl ?_
        exact hk
      · replace hf := if_f c_15 hf
        refine go_iload_n hC dX1_loadsAhead_21 rfl 3 rfl ?_
        refine go_aload_n hC dX1_loadsAhead_22 rfl 2 rfl ?_
        refine go_getr hC (j := 2) (idx := 61) (nm := "loads") (ds := "[I") (b_17 _) rfl rfl hn6 (Nat.le_of_ble_eq_true rfl) rfl rfl (List.mem_cons_of_mem _ (List.mem_append_left _ (List.mem_append_left _ (List.mem_append_left _ (List.mem_append_left _ (List.mem_of_getElem? (i := 1) rfl)))))) (Or.inl rfl) dX1_loadsAhead_23 ?_
        refine go_aload_n hC dX1_loadsAhead_26 rfl 0 rfl ?_
        obtain ⟨g_10, hf⟩ := gz_e hf
        refine go_geto hC (j := 2) (idx := 18) (nm := "stops") (ds := "[I") ho rfl rfl hn1 (Nat.le_of_ble_eq_true rfl) rfl rfl (List.mem_cons_of_mem _ (List.mem_append_left _ (List.mem_append_left _ (List.mem_append_left _ (List.mem_append_left _ (List.mem_of_getElem? (i := 0) rfl)))))) (Or.inl rfl) g_10 dX1_loadsAhead_27 ?_
        refine go_iload hC dX1_loadsAhead_30 4 rfl ?_
        obtain ⟨g_11, hf⟩ := ga_e hf
        refine go_iald hC ha g_11 dX1_loadsAhead_32 ?_
        obtain ⟨g_12, hf⟩ := ga_e hf
        refine go_iald hC (b_19 _) g_12 dX1_loadsAhead_33 ?_
        refine go_iadd hC dX1_loadsAhead_34 ?_
        obtain ⟨x3_13, ex3_13, hf⟩ := lt_e hf
        refine go_topi ex3_13 ?_
        refine go_istore_n hC dX1_loadsAhead_35 rfl (Nat.le_of_ble_eq_true rfl) rfl ?_
        obtain ⟨x4_14, ex4_14, hf⟩ := lt_e hf
        refine go_iinc hC dX1_loadsAhead_36 4 rfl k1_1 ex4_14 (Nat.le_of_ble_eq_true rfl) rfl ?_
        refine go_goto hC dX1_loadsAhead_39 (tgt := 5) (by decide) ?_
        obtain rfl := so_1 hf
        refine go_sub [2, 3, 4, 1, 0] rfl ?_
        exact ih x3_13 x4_14 _ (lp_c hy) ho ha hk
theorem e_X1_loadsAhead : yX1_loadsAhead.cls = RX1 ∧ yX1_loadsAhead.cls ≠ "java/lang/invoke/MethodHandle" ∧ yX1_loadsAhead.cls ≠ "java/lang/invoke/VarHandle" ∧ (parseMethodDescriptor yX1_loadsAhead.desc).map (fun d => d.parameters.length) = some 2 := by decide +kernel
set_option maxRecDepth 100000 in
set_option maxHeartbeats 4000000 in
theorem c_X1_loadsAhead_X1 (a n o : Nat) (x1 : Int32) (h : PH) (r : Int32) (ho : (l0_B ++ h.2.2.2)[o]? = some (.inr (1, [(0, 0), (0, 0), (2, a)]))) (ha : (l0_B ++ h.2.2.2)[a]? = some (.inl (0, n))) (hf : f_X1_loadsAhead 1 a n o x1 h = some r) : Con yX1_loadsAhead wsX1_loadsAhead (rm_d 0) l0_B [.ref o, .int x1, .ref 17] h (some (.int r)) h := by
  have hn1 : ∀ w ∈ wsX10, w ∈ wsX1_loadsAhead := (fun _ hw => (List.mem_cons_of_mem _ (List.mem_append_left _ (List.mem_append_left _ (List.mem_append_left _ (List.mem_append_right _ hw))))))
  have hn6 : ∀ w ∈ wsX60, w ∈ wsX1_loadsAhead := (fun _ hw => (List.mem_cons_of_mem _ (List.mem_append_right _ hw)))
  refine con_i (ty := .int) (cc := cX1_loadsAhead) (nL := 5) (by decide) rfl (Nat.le_of_ble_eq_true rfl) ?_
  intro C hC hret
  change Go l0_B C 0 0 0 [(0, .ref o), (1, .int x1), (2, .ref 17)] [] h
  unfold f_X1_loadsAhead at hf
  refine go_iconst hC dX1_loadsAhead_0 k1_0 ?_
  refine go_istore_n hC dX1_loadsAhead_1 rfl (Nat.le_of_ble_eq_true rfl) rfl ?_
  refine go_iconst hC dX1_loadsAhead_2 k1_0 ?_
  refine go_istore hC dX1_loadsAhead_3 (Nat.le_of_ble_eq_true rfl) rfl ?_
  obtain ⟨s_17, hl, hf⟩ := bd_e1 hf
  refine go_sub [2, 3, 4, 1, 0] rfl ?_
  refine lw_X1_loadsAhead_5_X1 hC a n o x1 h _ 0 0 s_17 hl ho ha ?_
  refine go_iload_n hC dX1_loadsAhead_42 rfl 0 rfl ?_
  obtain rfl := so_1 hf
  exact hret _ _ rfl dX1_loadsAhead_43
set_option maxRecDepth 100000 in
set_option maxHeartbeats 4000000 in
theorem lw_X1_loadsAhead_5_X7 {C : GC} (hC : Cx C cX1_loadsAhead 5 wsX1_loadsAhead RX1 (some .int) (rm_d 0)) (a n o : Nat) (x1 : Int32) (h : PH) : ∀ (n9 : Nat) (x3 : Int32) (x4 : Int32) (y : Int32 × Int32), lp_f (fun s => lb_X1_loadsAhead_5 7 a n o x1 h s.1 s.2) n9 (x3, x4) = some y → (l0_B ++ h.2.2.2)[o]? = some (.inr (7, [(0, 0), (0, 0), (2, a)])) → (l0_B ++ h.2.2.2)[a]? = some (.inl (0, n)) → ∀ (hk : Go l0_B C 0 0 42 [(3, .int y.1)] [] h), Go l0_B C 0 0 5 [(0, .ref o), (1, .int x1), (2, .ref 17), (3, .int x3), (4, .int x4)] [] h := by
  have hn6 : ∀ w ∈ wsX60, w ∈ wsX1_loadsAhead := (fun _ hw => (List.mem_cons_of_mem _ (List.mem_append_right _ hw)))
  have hn7 : ∀ w ∈ wsX70, w ∈ wsX1_loadsAhead := (fun _ hw => (List.mem_cons_of_mem _ (List.mem_append_left _ (List.mem_append_left _ (List.mem_append_right _ hw)))))
  intro n9
  induction n9 with
  | zero =>
    intro x3 x4 y hlp
    cases hlp
  | succ n9 ih =>
    intro x3 x4 y hlp ho ha hk
    obtain ⟨k9, z, hk9, hf, hy⟩ := lp_e hlp
    cases hk9
    replace hf : lb_X1_loadsAhead_5 7 a n o x1 h x3 x4 = some z := hf
    unfold lb_X1_loadsAhead_5 at hf
    refine go_iload hC dX1_loadsAhead_5 4 rfl ?_
    refine go_iload_n hC dX1_loadsAhead_7 rfl 1 rfl ?_
    refine go_icmp_ge hC dX1_loadsAhead_8 (tgt := 42) (by decide) (fun c_16 => ?_) (fun c_16 => ?_)
    · replace hf := if_t c_16 hf
      obtain rfl := so_1 hf
      obtain rfl := lp_x hy
      refine go_sub [3] rfl ?_
      exact hk
    · replace hf := if_f c_16 hf
      refine go_iload hC dX1_loadsAhead_11 4 rfl ?_
      refine go_aload_n hC dX1_loadsAhead_13 rfl 0 rfl ?_
      obtain ⟨g_9, hf⟩ := gz_e hf
      refine go_geto hC (j := 2) (idx := 18) (nm := "stops") (ds := "[I") ho rfl rfl hn7 (Nat.le_of_ble_eq_true rfl) rfl rfl (List.mem_cons_of_mem _ (List.mem_append_left _ (List.mem_append_left _ (List.mem_append_left _ (List.mem_append_left _ (List.mem_of_getElem? (i := 0) rfl)))))) (Or.inl rfl) g_9 dX1_loadsAhead_14 ?_
      refine go_alen hC ha (Nat.le_of_ble_eq_true rfl) rfl dX1_loadsAhead_17 ?_
      refine go_icmp_ge hC dX1_loadsAhead_18 (tgt := 42) (by decide) (fun c_15 => ?_) (fun c_15 => ?_)
      · replace hf := if_t c_15 hf
        obtain rfl := so_1 hf
        obtain rfl := lp_x hy
        refine go_sub [3] rfl ?_
        exact hk
      · replace hf := if_f c_15 hf
        refine go_iload_n hC dX1_loadsAhead_21 rfl 3 rfl ?_
        refine go_aload_n hC dX1_loadsAhead_22 rfl 2 rfl ?_
        refine go_getr hC (j := 2) (idx := 61) (nm := "loads") (ds := "[I") (b_17 _) rfl rfl hn6 (Nat.le_of_ble_eq_true rfl) rfl rfl (List.mem_cons_of_mem _ (List.mem_append_left _ (List.mem_append_left _ (List.mem_append_left _ (List.mem_append_left _ (List.mem_of_getElem? (i := 1) rfl)))))) (Or.inl rfl) dX1_loadsAhead_23 ?_
        refine go_aload_n hC dX1_loadsAhead_26 rfl 0 rfl ?_
        obtain ⟨g_10, hf⟩ := gz_e hf
        refine go_geto hC (j := 2) (idx := 18) (nm := "stops") (ds := "[I") ho rfl rfl hn7 (Nat.le_of_ble_eq_true rfl) rfl rfl (List.mem_cons_of_mem _ (List.mem_append_left _ (List.mem_append_left _ (List.mem_append_left _ (List.mem_append_left _ (List.mem_of_getElem? (i := 0) rfl)))))) (Or.inl rfl) g_10 dX1_loadsAhead_27 ?_
        refine go_iload hC dX1_loadsAhead_30 4 rfl ?_
        obtain ⟨g_11, hf⟩ := ga_e hf
        refine go_iald hC ha g_11 dX1_loadsAhead_32 ?_
        obtain ⟨g_12, hf⟩ := ga_e hf
        refine go_iald hC (b_19 _) g_12 dX1_loadsAhead_33 ?_
        refine go_iadd hC dX1_loadsAhead_34 ?_
        obtain ⟨x3_13, ex3_13, hf⟩ := lt_e hf
        refine go_topi ex3_13 ?_
        refine go_istore_n hC dX1_loadsAhead_35 rfl (Nat.le_of_ble_eq_true rfl) rfl ?_
        obtain ⟨x4_14, ex4_14, hf⟩ := lt_e hf
        refine go_iinc hC dX1_loadsAhead_36 4 rfl k1_1 ex4_14 (Nat.le_of_ble_eq_true rfl) rfl ?_
        refine go_goto hC dX1_loadsAhead_39 (tgt := 5) (by decide) ?_
        obtain rfl := so_1 hf
        refine go_sub [2, 3, 4, 1, 0] rfl ?_
        exact ih x3_13 x4_14 _ (lp_c hy) ho ha hk
set_option maxRecDepth 100000 in
set_option maxHeartbeats 4000000 in
theorem c_X1_loadsAhead_X7 (a n o : Nat) (x1 : Int32) (h : PH) (r : Int32) (ho : (l0_B ++ h.2.2.2)[o]? = some (.inr (7, [(0, 0), (0, 0), (2, a)]))) (ha : (l0_B ++ h.2.2.2)[a]? = some (.inl (0, n))) (hf : f_X1_loadsAhead 7 a n o x1 h = some r) : Con yX1_loadsAhead wsX1_loadsAhead (rm_d 0) l0_B [.ref o, .int x1, .ref 17] h (some (.int r)) h := by
  have hn6 : ∀ w ∈ wsX60, w ∈ wsX1_loadsAhead := (fun _ hw => (List.mem_cons_of_mem _ (List.mem_append_right _ hw)))
  have hn7 : ∀ w ∈ wsX70, w ∈ wsX1_loadsAhead := (fun _ hw => (List.mem_cons_of_mem _ (List.mem_append_left _ (List.mem_append_left _ (List.mem_append_right _ hw)))))
  refine con_i (ty := .int) (cc := cX1_loadsAhead) (nL := 5) (by decide) rfl (Nat.le_of_ble_eq_true rfl) ?_
  intro C hC hret
  change Go l0_B C 0 0 0 [(0, .ref o), (1, .int x1), (2, .ref 17)] [] h
  unfold f_X1_loadsAhead at hf
  refine go_iconst hC dX1_loadsAhead_0 k1_0 ?_
  refine go_istore_n hC dX1_loadsAhead_1 rfl (Nat.le_of_ble_eq_true rfl) rfl ?_
  refine go_iconst hC dX1_loadsAhead_2 k1_0 ?_
  refine go_istore hC dX1_loadsAhead_3 (Nat.le_of_ble_eq_true rfl) rfl ?_
  obtain ⟨s_17, hl, hf⟩ := bd_e1 hf
  refine go_sub [2, 3, 4, 1, 0] rfl ?_
  refine lw_X1_loadsAhead_5_X7 hC a n o x1 h _ 0 0 s_17 hl ho ha ?_
  refine go_iload_n hC dX1_loadsAhead_42 rfl 0 rfl ?_
  obtain rfl := so_1 hf
  exact hret _ _ rfl dX1_loadsAhead_43
set_option maxRecDepth 100000 in
set_option maxHeartbeats 4000000 in
theorem lw_X1_loadsAhead_5_X9 {C : GC} (hC : Cx C cX1_loadsAhead 5 wsX1_loadsAhead RX1 (some .int) (rm_d 0)) (a n o : Nat) (x1 : Int32) (h : PH) : ∀ (n9 : Nat) (x3 : Int32) (x4 : Int32) (y : Int32 × Int32), lp_f (fun s => lb_X1_loadsAhead_5 9 a n o x1 h s.1 s.2) n9 (x3, x4) = some y → (l0_B ++ h.2.2.2)[o]? = some (.inr (9, [(0, 0), (0, 0), (2, a)])) → (l0_B ++ h.2.2.2)[a]? = some (.inl (0, n)) → ∀ (hk : Go l0_B C 0 0 42 [(3, .int y.1)] [] h), Go l0_B C 0 0 5 [(0, .ref o), (1, .int x1), (2, .ref 17), (3, .int x3), (4, .int x4)] [] h := by
  have hn6 : ∀ w ∈ wsX60, w ∈ wsX1_loadsAhead := (fun _ hw => (List.mem_cons_of_mem _ (List.mem_append_right _ hw)))
  have hn9 : ∀ w ∈ wsX90, w ∈ wsX1_loadsAhead := (fun _ hw => (List.mem_cons_of_mem _ (List.mem_append_left _ (List.mem_append_right _ hw))))
  intro n9
  induction n9 with
  | zero =>
    intro x3 x4 y hlp
    cases hlp
  | succ n9 ih =>
    intro x3 x4 y hlp ho ha hk
    obtain ⟨k9, z, hk9, hf, hy⟩ := lp_e hlp
    cases hk9
    replace hf : lb_X1_loadsAhead_5 9 a n o x1 h x3 x4 = some z := hf
    unfold lb_X1_loadsAhead_5 at hf
    refine go_iload hC dX1_loadsAhead_5 4 rfl ?_
    refine go_iload_n hC dX1_loadsAhead_7 rfl 1 rfl ?_
    refine go_icmp_ge hC dX1_loadsAhead_8 (tgt := 42) (by decide) (fun c_16 => ?_) (fun c_16 => ?_)
    · replace hf := if_t c_16 hf
      obtain rfl := so_1 hf
      obtain rfl := lp_x hy
      refine go_sub [3] rfl ?_
      exact hk
    · replace hf := if_f c_16 hf
      refine go_iload hC dX1_loadsAhead_11 4 rfl ?_
      refine go_aload_n hC dX1_loadsAhead_13 rfl 0 rfl ?_
      obtain ⟨g_9, hf⟩ := gz_e hf
      refine go_geto hC (j := 2) (idx := 18) (nm := "stops") (ds := "[I") ho rfl rfl hn9 (Nat.le_of_ble_eq_true rfl) rfl rfl (List.mem_cons_of_mem _ (List.mem_append_left _ (List.mem_append_left _ (List.mem_append_left _ (List.mem_append_left _ (List.mem_of_getElem? (i := 0) rfl)))))) (Or.inl rfl) g_9 dX1_loadsAhead_14 ?_
      refine go_alen hC ha (Nat.le_of_ble_eq_true rfl) rfl dX1_loadsAhead_17 ?_
      refine go_icmp_ge hC dX1_loadsAhead_18 (tgt := 42) (by decide) (fun c_15 => ?_) (fun c_15 => ?_)
      · replace hf := if_t c_15 hf
        obtain rfl := so_1 hf
        obtain rfl := lp_x hy
        refine go_sub [3] rfl ?_
        exact hk
      · replace hf := if_f c_15 hf
        refine go_iload_n hC dX1_loadsAhead_21 rfl 3 rfl ?_
        refine go_aload_n hC dX1_loadsAhead_22 rfl 2 rfl ?_
        refine go_getr hC (j := 2) (idx := 61) (nm := "loads") (ds := "[I") (b_17 _) rfl rfl hn6 (Nat.le_of_ble_eq_true rfl) rfl rfl (List.mem_cons_of_mem _ (List.mem_append_left _ (List.mem_append_left _ (List.mem_append_left _ (List.mem_append_left _ (List.mem_of_getElem? (i := 1) rfl)))))) (Or.inl rfl) dX1_loadsAhead_23 ?_
        refine go_aload_n hC dX1_loadsAhead_26 rfl 0 rfl ?_
        obtain ⟨g_10, hf⟩ := gz_e hf
        refine go_geto hC (j := 2) (idx := 18) (nm := "stops") (ds := "[I") ho rfl rfl hn9 (Nat.le_of_ble_eq_true rfl) rfl rfl (List.mem_cons_of_mem _ (List.mem_append_left _ (List.mem_append_left _ (List.mem_append_left _ (List.mem_append_left _ (List.mem_of_getElem? (i := 0) rfl)))))) (Or.inl rfl) g_10 dX1_loadsAhead_27 ?_
        refine go_iload hC dX1_loadsAhead_30 4 rfl ?_
        obtain ⟨g_11, hf⟩ := ga_e hf
        refine go_iald hC ha g_11 dX1_loadsAhead_32 ?_
        obtain ⟨g_12, hf⟩ := ga_e hf
        refine go_iald hC (b_19 _) g_12 dX1_loadsAhead_33 ?_
        refine go_iadd hC dX1_loadsAhead_34 ?_
        obtain ⟨x3_13, ex3_13, hf⟩ := lt_e hf
        refine go_topi ex3_13 ?_
        refine go_istore_n hC dX1_loadsAhead_35 rfl (Nat.le_of_ble_eq_true rfl) rfl ?_
        obtain ⟨x4_14, ex4_14, hf⟩ := lt_e hf
        refine go_iinc hC dX1_loadsAhead_36 4 rfl k1_1 ex4_14 (Nat.le_of_ble_eq_true rfl) rfl ?_
        refine go_goto hC dX1_loadsAhead_39 (tgt := 5) (by decide) ?_
        obtain rfl := so_1 hf
        refine go_sub [2, 3, 4, 1, 0] rfl ?_
        exact ih x3_13 x4_14 _ (lp_c hy) ho ha hk
set_option maxRecDepth 100000 in
set_option maxHeartbeats 4000000 in
theorem c_X1_loadsAhead_X9 (a n o : Nat) (x1 : Int32) (h : PH) (r : Int32) (ho : (l0_B ++ h.2.2.2)[o]? = some (.inr (9, [(0, 0), (0, 0), (2, a)]))) (ha : (l0_B ++ h.2.2.2)[a]? = some (.inl (0, n))) (hf : f_X1_loadsAhead 9 a n o x1 h = some r) : Con yX1_loadsAhead wsX1_loadsAhead (rm_d 0) l0_B [.ref o, .int x1, .ref 17] h (some (.int r)) h := by
  have hn6 : ∀ w ∈ wsX60, w ∈ wsX1_loadsAhead := (fun _ hw => (List.mem_cons_of_mem _ (List.mem_append_right _ hw)))
  have hn9 : ∀ w ∈ wsX90, w ∈ wsX1_loadsAhead := (fun _ hw => (List.mem_cons_of_mem _ (List.mem_append_left _ (List.mem_append_right _ hw))))
  refine con_i (ty := .int) (cc := cX1_loadsAhead) (nL := 5) (by decide) rfl (Nat.le_of_ble_eq_true rfl) ?_
  intro C hC hret
  change Go l0_B C 0 0 0 [(0, .ref o), (1, .int x1), (2, .ref 17)] [] h
  unfold f_X1_loadsAhead at hf
  refine go_iconst hC dX1_loadsAhead_0 k1_0 ?_
  refine go_istore_n hC dX1_loadsAhead_1 rfl (Nat.le_of_ble_eq_true rfl) rfl ?_
  refine go_iconst hC dX1_loadsAhead_2 k1_0 ?_
  refine go_istore hC dX1_loadsAhead_3 (Nat.le_of_ble_eq_true rfl) rfl ?_
  obtain ⟨s_17, hl, hf⟩ := bd_e1 hf
  refine go_sub [2, 3, 4, 1, 0] rfl ?_
  refine lw_X1_loadsAhead_5_X9 hC a n o x1 h _ 0 0 s_17 hl ho ha ?_
  refine go_iload_n hC dX1_loadsAhead_42 rfl 0 rfl ?_
  obtain rfl := so_1 hf
  exact hret _ _ rfl dX1_loadsAhead_43
def f_X1_carriedFirst (ci a n o : Nat) (h : PH) : Option (Int64) :=
  gz_i (h.1 o 2) (
  bd_1 (f_X1_loadsAhead ci a n o (Int32.ofNat n) h) fun r_2 =>
  some r_2.toInt64)
theorem e_X1_carriedFirst : yX1_carriedFirst.cls = RX1 ∧ yX1_carriedFirst.cls ≠ "java/lang/invoke/MethodHandle" ∧ yX1_carriedFirst.cls ≠ "java/lang/invoke/VarHandle" ∧ (parseMethodDescriptor yX1_carriedFirst.desc).map (fun d => d.parameters.length) = some 2 := by decide +kernel
set_option maxRecDepth 100000 in
set_option maxHeartbeats 4000000 in
theorem c_X1_carriedFirst_X1 (a n o : Nat) (h : PH) (r : Int64) (ho : (l0_B ++ h.2.2.2)[o]? = some (.inr (1, [(0, 0), (0, 0), (2, a)]))) (ha : (l0_B ++ h.2.2.2)[a]? = some (.inl (0, n))) (hf : f_X1_carriedFirst 1 a n o h = some r) : Con yX1_carriedFirst wsX1_carriedFirst (rm_d 1) l0_B [.ref o, .ref 10, .ref 17] h (some (.long r)) h := by
  have hn1 : ∀ w ∈ wsX10, w ∈ wsX1_carriedFirst := (fun _ hw => (List.mem_cons_of_mem _ (List.mem_append_left _ (List.mem_append_left _ (List.mem_append_left _ (List.mem_append_right _ hw))))))
  refine con_l (cc := cX1_carriedFirst) (nL := 3) (by decide) rfl (Nat.le_of_ble_eq_true rfl) ?_
  intro C hC hret
  change Go l0_B C 0 0 0 [(0, .ref o), (1, .ref 10), (2, .ref 17)] [] h
  unfold f_X1_carriedFirst at hf
  refine go_aload_n hC dX1_carriedFirst_0 rfl 0 rfl ?_
  refine go_aload_n hC dX1_carriedFirst_1 rfl 0 rfl ?_
  obtain ⟨g_1, hf⟩ := gz_e hf
  refine go_geto hC (j := 2) (idx := 18) (nm := "stops") (ds := "[I") ho rfl rfl hn1 (Nat.le_of_ble_eq_true rfl) rfl rfl (List.mem_cons_of_mem _ (List.mem_append_left _ (List.mem_append_left _ (List.mem_append_left _ (List.mem_append_left _ (List.mem_of_getElem? (i := 0) rfl)))))) (Or.inl rfl) g_1 dX1_carriedFirst_2 ?_
  refine go_alen hC ha (Nat.le_of_ble_eq_true rfl) rfl dX1_carriedFirst_5 ?_
  refine go_aload_n hC dX1_carriedFirst_6 rfl 2 rfl ?_
  obtain ⟨r_2, hc, hf⟩ := bd_e1 hf
  refine go_callV hC (c_X1_loadsAhead_X1 a n o (Int32.ofNat n) h r_2 ho ha hc) gX1_carriedFirst_X1_loadsAhead rfl ⟨rfl, rfl⟩ 2 e_X1_loadsAhead ⟨Nat.le_of_ble_eq_true rfl, Nat.le_of_ble_eq_true rfl⟩ ho rfl rfl (st := []) (st1 := [.int r_2]) rfl rfl (Nat.le_of_ble_eq_true rfl) ⟨Nat.zero_le _, Nat.zero_le _⟩ dX1_carriedFirst_7 ?_
  refine go_i2l hC dX1_carriedFirst_10 ?_
  obtain rfl := so_1 hf
  exact hret _ _ dX1_carriedFirst_11
def f_X7_pieces (ci a n o : Nat) (h : PH) : Option (Int32) :=
  gz_i (h.1 o 2) (
  some ((Int32.ofNat n) + 1))
theorem e_X7_pieces : yX7_pieces.cls = RX7 ∧ yX7_pieces.cls ≠ "java/lang/invoke/MethodHandle" ∧ yX7_pieces.cls ≠ "java/lang/invoke/VarHandle" ∧ (parseMethodDescriptor yX7_pieces.desc).map (fun d => d.parameters.length) = some 0 := by decide +kernel
set_option maxRecDepth 100000 in
set_option maxHeartbeats 4000000 in
theorem c_X7_pieces_X7 (a n o : Nat) (h : PH) (r : Int32) (ho : (l0_B ++ h.2.2.2)[o]? = some (.inr (7, [(0, 0), (0, 0), (2, a)]))) (ha : (l0_B ++ h.2.2.2)[a]? = some (.inl (0, n))) (hf : f_X7_pieces 7 a n o h = some r) : Con yX7_pieces wsX7_pieces (rm_d 0) l0_B [.ref o] h (some (.int r)) h := by
  have hn7 : ∀ w ∈ wsX70, w ∈ wsX7_pieces := (fun _ hw => (List.mem_cons_of_mem _ (List.mem_append_left _ (List.mem_append_right _ hw))))
  refine con_i (ty := .int) (cc := cX7_pieces) (nL := 1) (by decide) rfl (Nat.le_of_ble_eq_true rfl) ?_
  intro C hC hret
  change Go l0_B C 0 0 0 [(0, .ref o)] [] h
  unfold f_X7_pieces at hf
  refine go_aload_n hC dX7_pieces_0 rfl 0 rfl ?_
  obtain ⟨g_1, hf⟩ := gz_e hf
  refine go_geto hC (j := 2) (idx := 7) (nm := "stops") (ds := "[I") ho rfl rfl hn7 (Nat.le_of_ble_eq_true rfl) rfl rfl (List.mem_cons_of_mem _ (List.mem_append_left _ (List.mem_append_left _ (List.mem_append_left _ (List.mem_of_getElem? (i := 0) rfl))))) (Or.inr (List.mem_cons_of_mem _ (List.mem_append_left _ (List.mem_append_left _ (List.mem_append_left _ (List.mem_of_getElem? (i := 1) rfl)))))) g_1 dX7_pieces_1 ?_
  refine go_alen hC ha (Nat.le_of_ble_eq_true rfl) rfl dX7_pieces_4 ?_
  refine go_iconst hC dX7_pieces_5 k1_1 ?_
  refine go_iadd hC dX7_pieces_6 ?_
  obtain rfl := so_1 hf
  exact hret _ _ rfl dX7_pieces_7
set_option maxRecDepth 100000 in
set_option maxHeartbeats 4000000 in
theorem c_X7_pieces_X9 (a n o : Nat) (h : PH) (r : Int32) (ho : (l0_B ++ h.2.2.2)[o]? = some (.inr (9, [(0, 0), (0, 0), (2, a)]))) (ha : (l0_B ++ h.2.2.2)[a]? = some (.inl (0, n))) (hf : f_X7_pieces 9 a n o h = some r) : Con yX7_pieces wsX7_pieces (rm_d 0) l0_B [.ref o] h (some (.int r)) h := by
  have hn9 : ∀ w ∈ wsX90, w ∈ wsX7_pieces := (fun _ hw => (List.mem_cons_of_mem _ (List.mem_append_right _ hw)))
  refine con_i (ty := .int) (cc := cX7_pieces) (nL := 1) (by decide) rfl (Nat.le_of_ble_eq_true rfl) ?_
  intro C hC hret
  change Go l0_B C 0 0 0 [(0, .ref o)] [] h
  unfold f_X7_pieces at hf
  refine go_aload_n hC dX7_pieces_0 rfl 0 rfl ?_
  obtain ⟨g_1, hf⟩ := gz_e hf
  refine go_geto hC (j := 2) (idx := 7) (nm := "stops") (ds := "[I") ho rfl rfl hn9 (Nat.le_of_ble_eq_true rfl) rfl rfl (List.mem_cons_of_mem _ (List.mem_append_left _ (List.mem_append_left _ (List.mem_append_left _ (List.mem_of_getElem? (i := 0) rfl))))) (Or.inr (List.mem_cons_of_mem _ (List.mem_append_left _ (List.mem_append_left _ (List.mem_append_left _ (List.mem_of_getElem? (i := 1) rfl)))))) g_1 dX7_pieces_1 ?_
  refine go_alen hC ha (Nat.le_of_ble_eq_true rfl) rfl dX7_pieces_4 ?_
  refine go_iconst hC dX7_pieces_5 k1_1 ?_
  refine go_iadd hC dX7_pieces_6 ?_
  obtain rfl := so_1 hf
  exact hret _ _ rfl dX7_pieces_7
def f_X1_endOf (ci a n o : Nat) (x1 : Int32) (h : PH) : Option (Int32) :=
  if x1 < 1 then (
  some (h.1 10 1))
  else (
  gz_i (h.1 o 2) (
  if (Int32.ofNat n) < x1 then (
  some (h.1 10 1))
  else (
  gz_i (h.1 o 2) (
  ga_i (x1 - 1) n (
  ga_i (h.1 a (x1 - 1).toNatClampNeg) 8 (
  some (h.1 18 (h.1 a (x1 - 1).toNatClampNeg).toNatClampNeg)))))))
theorem e_X1_endOf : yX1_endOf.cls = RX1 ∧ yX1_endOf.cls ≠ "java/lang/invoke/MethodHandle" ∧ yX1_endOf.cls ≠ "java/lang/invoke/VarHandle" ∧ (parseMethodDescriptor yX1_endOf.desc).map (fun d => d.parameters.length) = some 3 := by decide +kernel
set_option maxRecDepth 100000 in
set_option maxHeartbeats 4000000 in
theorem c_X1_endOf_X1 (a n o : Nat) (x1 : Int32) (h : PH) (r : Int32) (ho : (l0_B ++ h.2.2.2)[o]? = some (.inr (1, [(0, 0), (0, 0), (2, a)]))) (ha : (l0_B ++ h.2.2.2)[a]? = some (.inl (0, n))) (hf : f_X1_endOf 1 a n o x1 h = some r) : Con yX1_endOf wsX1_endOf (rm_d 0) l0_B [.ref o, .int x1, .ref 10, .ref 17] h (some (.int r)) h := by
  have hn1 : ∀ w ∈ wsX10, w ∈ wsX1_endOf := (fun _ hw => (List.mem_cons_of_mem _ (List.mem_append_left _ (List.mem_append_left _ (List.mem_append_left _ (List.mem_append_left _ (List.mem_append_right _ hw)))))))
  have hn3 : ∀ w ∈ wsX30, w ∈ wsX1_endOf := (fun _ hw => (List.mem_cons_of_mem _ (List.mem_append_right _ hw)))
  have hn6 : ∀ w ∈ wsX60, w ∈ wsX1_endOf := (fun _ hw => (List.mem_cons_of_mem _ (List.mem_append_left _ (List.mem_append_right _ hw))))
  refine con_i (ty := .int) (cc := cX1_endOf) (nL := 4) (by decide) rfl (Nat.le_of_ble_eq_true rfl) ?_
  intro C hC hret
  change Go l0_B C 0 0 0 [(0, .ref o), (1, .int x1), (2, .ref 10), (3, .ref 17)] [] h
  unfold f_X1_endOf at hf
  refine go_iload_n hC dX1_endOf_0 rfl 1 rfl ?_
  refine go_iconst hC dX1_endOf_1 k1_1 ?_
  refine go_icmp_lt hC dX1_endOf_2 (tgt := 30) (by decide) (fun c_6 => ?_) (fun c_6 => ?_)
  · replace hf := if_t c_6 hf
    refine go_aload_n hC dX1_endOf_30 rfl 2 rfl ?_
    refine go_geti hC (j := 1) (idx := 72) (nm := "boxPlace") (ds := "I") (b_10 _) rfl rfl hn3 (Nat.le_of_ble_eq_true rfl) rfl rfl (List.mem_cons_of_mem _ (List.mem_append_left _ (List.mem_append_left _ (List.mem_append_left _ (List.mem_append_left _ (List.mem_append_left _ (List.mem_of_getElem? (i := 2) rfl))))))) (Or.inl rfl) dX1_endOf_31 ?_
    obtain rfl := so_1 hf
    exact hret _ _ rfl dX1_endOf_34
  · replace hf := if_f c_6 hf
    refine go_iload_n hC dX1_endOf_5 rfl 1 rfl ?_
    refine go_aload_n hC dX1_endOf_6 rfl 0 rfl ?_
    obtain ⟨g_1, hf⟩ := gz_e hf
    refine go_geto hC (j := 2) (idx := 18) (nm := "stops") (ds := "[I") ho rfl rfl hn1 (Nat.le_of_ble_eq_true rfl) rfl rfl (List.mem_cons_of_mem _ (List.mem_append_left _ (List.mem_append_left _ (List.mem_append_left _ (List.mem_append_left _ (List.mem_append_left _ (List.mem_of_getElem? (i := 0) rfl))))))) (Or.inl rfl) g_1 dX1_endOf_7 ?_
    refine go_alen hC ha (Nat.le_of_ble_eq_true rfl) rfl dX1_endOf_10 ?_
    refine go_icmp_gt hC dX1_endOf_11 (tgt := 30) (by decide) (fun c_5 => ?_) (fun c_5 => ?_)
    · replace hf := if_t c_5 hf
      refine go_aload_n hC dX1_endOf_30 rfl 2 rfl ?_
      refine go_geti hC (j := 1) (idx := 72) (nm := "boxPlace") (ds := "I") (b_10 _) rfl rfl hn3 (Nat.le_of_ble_eq_true rfl) rfl rfl (List.mem_cons_of_mem _ (List.mem_append_left _ (List.mem_append_left _ (List.mem_append_left _ (List.mem_append_left _ (List.mem_append_left _ (List.mem_of_getElem? (i := 2) rfl))))))) (Or.inl rfl) dX1_endOf_31 ?_
      obtain rfl := so_1 hf
      exact hret _ _ rfl dX1_endOf_34
    · replace hf := if_f c_5 hf
      refine go_aload_n hC dX1_endOf_14 rfl 3 rfl ?_
      refine go_getr hC (j := 1) (idx := 69) (nm := "places") (ds := "[I") (b_17 _) rfl rfl hn6 (Nat.le_of_ble_eq_true rfl) rfl rfl (List.mem_cons_of_mem _ (List.mem_append_left _ (List.mem_append_left _ (List.mem_append_left _ (List.mem_append_left _ (List.mem_append_left _ (List.mem_of_getElem? (i := 1) rfl))))))) (Or.inl rfl) dX1_endOf_15 ?_
      refine go_aload_n hC dX1_endOf_18 rfl 0 rfl ?_
      obtain ⟨g_2, hf⟩ := gz_e hf
      refine go_geto hC (j := 2) (idx := 18) (nm := "stops") (ds := "[I") ho rfl rfl hn1 (Nat.le_of_ble_eq_true rfl) rfl rfl (List.mem_cons_of_mem _ (List.mem_append_left _ (List.mem_append_left _ (List.mem_append_left _ (List.mem_append_left _ (List.mem_append_left _ (List.mem_of_getElem? (i := 0) rfl))))))) (Or.inl rfl) g_2 dX1_endOf_19 ?_
      refine go_iload_n hC dX1_endOf_22 rfl 1 rfl ?_
      refine go_iconst hC dX1_endOf_23 k1_1 ?_
      refine go_isub hC dX1_endOf_24 ?_
      obtain ⟨g_3, hf⟩ := ga_e hf
      refine go_iald hC ha g_3 dX1_endOf_25 ?_
      obtain ⟨g_4, hf⟩ := ga_e hf
      refine go_iald hC (b_18 _) g_4 dX1_endOf_26 ?_
      refine go_goto hC dX1_endOf_27 (tgt := 34) (by decide) ?_
      obtain rfl := so_1 hf
      exact hret _ _ rfl dX1_endOf_34
set_option maxRecDepth 100000 in
set_option maxHeartbeats 4000000 in
theorem c_X1_endOf_X7 (a n o : Nat) (x1 : Int32) (h : PH) (r : Int32) (ho : (l0_B ++ h.2.2.2)[o]? = some (.inr (7, [(0, 0), (0, 0), (2, a)]))) (ha : (l0_B ++ h.2.2.2)[a]? = some (.inl (0, n))) (hf : f_X1_endOf 7 a n o x1 h = some r) : Con yX1_endOf wsX1_endOf (rm_d 0) l0_B [.ref o, .int x1, .ref 10, .ref 17] h (some (.int r)) h := by
  have hn3 : ∀ w ∈ wsX30, w ∈ wsX1_endOf := (fun _ hw => (List.mem_cons_of_mem _ (List.mem_append_right _ hw)))
  have hn6 : ∀ w ∈ wsX60, w ∈ wsX1_endOf := (fun _ hw => (List.mem_cons_of_mem _ (List.mem_append_left _ (List.mem_append_right _ hw))))
  have hn7 : ∀ w ∈ wsX70, w ∈ wsX1_endOf := (fun _ hw => (List.mem_cons_of_mem _ (List.mem_append_left _ (List.mem_append_left _ (List.mem_append_left _ (List.mem_append_right _ hw))))))
  refine con_i (ty := .int) (cc := cX1_endOf) (nL := 4) (by decide) rfl (Nat.le_of_ble_eq_true rfl) ?_
  intro C hC hret
  change Go l0_B C 0 0 0 [(0, .ref o), (1, .int x1), (2, .ref 10), (3, .ref 17)] [] h
  unfold f_X1_endOf at hf
  refine go_iload_n hC dX1_endOf_0 rfl 1 rfl ?_
  refine go_iconst hC dX1_endOf_1 k1_1 ?_
  refine go_icmp_lt hC dX1_endOf_2 (tgt := 30) (by decide) (fun c_6 => ?_) (fun c_6 => ?_)
  · replace hf := if_t c_6 hf
    refine go_aload_n hC dX1_endOf_30 rfl 2 rfl ?_
    refine go_geti hC (j := 1) (idx := 72) (nm := "boxPlace") (ds := "I") (b_10 _) rfl rfl hn3 (Nat.le_of_ble_eq_true rfl) rfl rfl (List.mem_cons_of_mem _ (List.mem_append_left _ (List.mem_append_left _ (List.mem_append_left _ (List.mem_append_left _ (List.mem_append_left _ (List.mem_of_getElem? (i := 2) rfl))))))) (Or.inl rfl) dX1_endOf_31 ?_
    obtain rfl := so_1 hf
    exact hret _ _ rfl dX1_endOf_34
  · replace hf := if_f c_6 hf
    refine go_iload_n hC dX1_endOf_5 rfl 1 rfl ?_
    refine go_aload_n hC dX1_endOf_6 rfl 0 rfl ?_
    obtain ⟨g_1, hf⟩ := gz_e hf
    refine go_geto hC (j := 2) (idx := 18) (nm := "stops") (ds := "[I") ho rfl rfl hn7 (Nat.le_of_ble_eq_true rfl) rfl rfl (List.mem_cons_of_mem _ (List.mem_append_left _ (List.mem_append_left _ (List.mem_append_left _ (List.mem_append_left _ (List.mem_append_left _ (List.mem_of_getElem? (i := 0) rfl))))))) (Or.inl rfl) g_1 dX1_endOf_7 ?_
    refine go_alen hC ha (Nat.le_of_ble_eq_true rfl) rfl dX1_endOf_10 ?_
    refine go_icmp_gt hC dX1_endOf_11 (tgt := 30) (by decide) (fun c_5 => ?_) (fun c_5 => ?_)
    · replace hf := if_t c_5 hf
      refine go_aload_n hC dX1_endOf_30 rfl 2 rfl ?_
      refine go_geti hC (j := 1) (idx := 72) (nm := "boxPlace") (ds := "I") (b_10 _) rfl rfl hn3 (Nat.le_of_ble_eq_true rfl) rfl rfl (List.mem_cons_of_mem _ (List.mem_append_left _ (List.mem_append_left _ (List.mem_append_left _ (List.mem_append_left _ (List.mem_append_left _ (List.mem_of_getElem? (i := 2) rfl))))))) (Or.inl rfl) dX1_endOf_31 ?_
      obtain rfl := so_1 hf
      exact hret _ _ rfl dX1_endOf_34
    · replace hf := if_f c_5 hf
      refine go_aload_n hC dX1_endOf_14 rfl 3 rfl ?_
      refine go_getr hC (j := 1) (idx := 69) (nm := "places") (ds := "[I") (b_17 _) rfl rfl hn6 (Nat.le_of_ble_eq_true rfl) rfl rfl (List.mem_cons_of_mem _ (List.mem_append_left _ (List.mem_append_left _ (List.mem_append_left _ (List.mem_append_left _ (List.mem_append_left _ (List.mem_of_getElem? (i := 1) rfl))))))) (Or.inl rfl) dX1_endOf_15 ?_
      refine go_aload_n hC dX1_endOf_18 rfl 0 rfl ?_
      obtain ⟨g_2, hf⟩ := gz_e hf
      refine go_geto hC (j := 2) (idx := 18) (nm := "stops") (ds := "[I") ho rfl rfl hn7 (Nat.le_of_ble_eq_true rfl) rfl rfl (List.mem_cons_of_mem _ (List.mem_append_left _ (List.mem_append_left _ (List.mem_append_left _ (List.mem_append_left _ (List.mem_append_left _ (List.mem_of_getElem? (i := 0) rfl))))))) (Or.inl rfl) g_2 dX1_endOf_19 ?_
      refine go_iload_n hC dX1_endOf_22 rfl 1 rfl ?_
      refine go_iconst hC dX1_endOf_23 k1_1 ?_
      refine go_isub hC dX1_endOf_24 ?_
      obtain ⟨g_3, hf⟩ := ga_e hf
      refine go_iald hC ha g_3 dX1_endOf_25 ?_
      obtain ⟨g_4, hf⟩ := ga_e hf
      refine go_iald hC (b_18 _) g_4 dX1_endOf_26 ?_
      refine go_goto hC dX1_endOf_27 (tgt := 34) (by decide) ?_
      obtain rfl := so_1 hf
      exact hret _ _ rfl dX1_endOf_34
set_option maxRecDepth 100000 in
set_option maxHeartbeats 4000000 in
theorem c_X1_endOf_X9 (a n o : Nat) (x1 : Int32) (h : PH) (r : Int32) (ho : (l0_B ++ h.2.2.2)[o]? = some (.inr (9, [(0, 0), (0, 0), (2, a)]))) (ha : (l0_B ++ h.2.2.2)[a]? = some (.inl (0, n))) (hf : f_X1_endOf 9 a n o x1 h = some r) : Con yX1_endOf wsX1_endOf (rm_d 0) l0_B [.ref o, .int x1, .ref 10, .ref 17] h (some (.int r)) h := by
  have hn3 : ∀ w ∈ wsX30, w ∈ wsX1_endOf := (fun _ hw => (List.mem_cons_of_mem _ (List.mem_append_right _ hw)))
  have hn6 : ∀ w ∈ wsX60, w ∈ wsX1_endOf := (fun _ hw => (List.mem_cons_of_mem _ (List.mem_append_left _ (List.mem_append_right _ hw))))
  have hn9 : ∀ w ∈ wsX90, w ∈ wsX1_endOf := (fun _ hw => (List.mem_cons_of_mem _ (List.mem_append_left _ (List.mem_append_left _ (List.mem_append_right _ hw)))))
  refine con_i (ty := .int) (cc := cX1_endOf) (nL := 4) (by decide) rfl (Nat.le_of_ble_eq_true rfl) ?_
  intro C hC hret
  change Go l0_B C 0 0 0 [(0, .ref o), (1, .int x1), (2, .ref 10), (3, .ref 17)] [] h
  unfold f_X1_endOf at hf
  refine go_iload_n hC dX1_endOf_0 rfl 1 rfl ?_
  refine go_iconst hC dX1_endOf_1 k1_1 ?_
  refine go_icmp_lt hC dX1_endOf_2 (tgt := 30) (by decide) (fun c_6 => ?_) (fun c_6 => ?_)
  · replace hf := if_t c_6 hf
    refine go_aload_n hC dX1_endOf_30 rfl 2 rfl ?_
    refine go_geti hC (j := 1) (idx := 72) (nm := "boxPlace") (ds := "I") (b_10 _) rfl rfl hn3 (Nat.le_of_ble_eq_true rfl) rfl rfl (List.mem_cons_of_mem _ (List.mem_append_left _ (List.mem_append_left _ (List.mem_append_left _ (List.mem_append_left _ (List.mem_append_left _ (List.mem_of_getElem? (i := 2) rfl))))))) (Or.inl rfl) dX1_endOf_31 ?_
    obtain rfl := so_1 hf
    exact hret _ _ rfl dX1_endOf_34
  · replace hf := if_f c_6 hf
    refine go_iload_n hC dX1_endOf_5 rfl 1 rfl ?_
    refine go_aload_n hC dX1_endOf_6 rfl 0 rfl ?_
    obtain ⟨g_1, hf⟩ := gz_e hf
    refine go_geto hC (j := 2) (idx := 18) (nm := "stops") (ds := "[I") ho rfl rfl hn9 (Nat.le_of_ble_eq_true rfl) rfl rfl (List.mem_cons_of_mem _ (List.mem_append_left _ (List.mem_append_left _ (List.mem_append_left _ (List.mem_append_left _ (List.mem_append_left _ (List.mem_of_getElem? (i := 0) rfl))))))) (Or.inl rfl) g_1 dX1_endOf_7 ?_
    refine go_alen hC ha (Nat.le_of_ble_eq_true rfl) rfl dX1_endOf_10 ?_
    refine go_icmp_gt hC dX1_endOf_11 (tgt := 30) (by decide) (fun c_5 => ?_) (fun c_5 => ?_)
    · replace hf := if_t c_5 hf
      refine go_aload_n hC dX1_endOf_30 rfl 2 rfl ?_
      refine go_geti hC (j := 1) (idx := 72) (nm := "boxPlace") (ds := "I") (b_10 _) rfl rfl hn3 (Nat.le_of_ble_eq_true rfl) rfl rfl (List.mem_cons_of_mem _ (List.mem_append_left _ (List.mem_append_left _ (List.mem_append_left _ (List.mem_append_left _ (List.mem_append_left _ (List.mem_of_getElem? (i := 2) rfl))))))) (Or.inl rfl) dX1_endOf_31 ?_
      obtain rfl := so_1 hf
      exact hret _ _ rfl dX1_endOf_34
    · replace hf := if_f c_5 hf
      refine go_aload_n hC dX1_endOf_14 rfl 3 rfl ?_
      refine go_getr hC (j := 1) (idx := 69) (nm := "places") (ds := "[I") (b_17 _) rfl rfl hn6 (Nat.le_of_ble_eq_true rfl) rfl rfl (List.mem_cons_of_mem _ (List.mem_append_left _ (List.mem_append_left _ (List.mem_append_left _ (List.mem_append_left _ (List.mem_append_left _ (List.mem_of_getElem? (i := 1) rfl))))))) (Or.inl rfl) dX1_endOf_15 ?_
      refine go_aload_n hC dX1_endOf_18 rfl 0 rfl ?_
      obtain ⟨g_2, hf⟩ := gz_e hf
      refine go_geto hC (j := 2) (idx := 18) (nm := "stops") (ds := "[I") ho rfl rfl hn9 (Nat.le_of_ble_eq_true rfl) rfl rfl (List.mem_cons_of_mem _ (List.mem_append_left _ (List.mem_append_left _ (List.mem_append_left _ (List.mem_append_left _ (List.mem_append_left _ (List.mem_of_getElem? (i := 0) rfl))))))) (Or.inl rfl) g_2 dX1_endOf_19 ?_
      refine go_iload_n hC dX1_endOf_22 rfl 1 rfl ?_
      refine go_iconst hC dX1_endOf_23 k1_1 ?_
      refine go_isub hC dX1_endOf_24 ?_
      obtain ⟨g_3, hf⟩ := ga_e hf
      refine go_iald hC ha g_3 dX1_endOf_25 ?_
      obtain ⟨g_4, hf⟩ := ga_e hf
      refine go_iald hC (b_18 _) g_4 dX1_endOf_26 ?_
      refine go_goto hC dX1_endOf_27 (tgt := 34) (by decide) ?_
      obtain rfl := so_1 hf
      exact hret _ _ rfl dX1_endOf_34
def f_X1_yardsOf (ci a n o : Nat) (x1 : Int32) (h : PH) : Option (Int32) :=
  bd_1 (f_X1_endOf ci a n o x1 h) fun r_1 =>
  bd_1 (f_X1_endOf ci a n o (x1 + 1) h) fun r_2 =>
  bd_1 (f_X3_yardsFrom r_1 r_2 h) fun r_3 =>
  some r_3
theorem e_X1_yardsOf : yX1_yardsOf.cls = RX1 ∧ yX1_yardsOf.cls ≠ "java/lang/invoke/MethodHandle" ∧ yX1_yardsOf.cls ≠ "java/lang/invoke/VarHandle" ∧ (parseMethodDescriptor yX1_yardsOf.desc).map (fun d => d.parameters.length) = some 3 := by decide +kernel
set_option maxRecDepth 100000 in
set_option maxHeartbeats 4000000 in
theorem c_X1_yardsOf_X1 (a n o : Nat) (x1 : Int32) (h : PH) (r : Int32) (ho : (l0_B ++ h.2.2.2)[o]? = some (.inr (1, [(0, 0), (0, 0), (2, a)]))) (ha : (l0_B ++ h.2.2.2)[a]? = some (.inl (0, n))) (hf : f_X1_yardsOf 1 a n o x1 h = some r) : Con yX1_yardsOf wsX1_yardsOf (rm_d 1) l0_B [.ref o, .int x1, .ref 10, .ref 17] h (some (.int r)) h := by

  refine con_i (ty := .int) (cc := cX1_yardsOf) (nL := 4) (by decide) rfl (Nat.le_of_ble_eq_true rfl) ?_
  intro C hC hret
  change Go l0_B C 0 0 0 [(0, .ref o), (1, .int x1), (2, .ref 10), (3, .ref 17)] [] h
  unfold f_X1_yardsOf at hf
  refine go_aload_n hC dX1_yardsOf_0 rfl 2 rfl ?_
  refine go_aload_n hC dX1_yardsOf_1 rfl 0 rfl ?_
  refine go_iload_n hC dX1_yardsOf_2 rfl 1 rfl ?_
  refine go_aload_n hC dX1_yardsOf_3 rfl 2 rfl ?_
  refine go_aload_n hC dX1_yardsOf_4 rfl 3 rfl ?_
  obtain ⟨r_1, hc, hf⟩ := bd_e1 hf
  refine go_callV hC (c_X1_endOf_X1 a n o x1 h r_1 ho ha hc) gX1_yardsOf_X1_endOf rfl ⟨rfl, rfl⟩ 3 e_X1_endOf ⟨Nat.le_of_ble_eq_true rfl, Nat.le_of_ble_eq_true rfl⟩ ho rfl rfl (st := [.ref 10]) (st1 := [.int r_1, .ref 10]) rfl rfl (Nat.le_of_ble_eq_true rfl) ⟨Nat.zero_le _, Nat.zero_le _⟩ dX1_yardsOf_5 ?_
  refine go_aload_n hC dX1_yardsOf_8 rfl 0 rfl ?_
  refine go_iload_n hC dX1_yardsOf_9 rfl 1 rfl ?_
  refine go_iconst hC dX1_yardsOf_10 k1_1 ?_
  refine go_iadd hC dX1_yardsOf_11 ?_
  refine go_aload_n hC dX1_yardsOf_12 rfl 2 rfl ?_
  refine go_aload_n hC dX1_yardsOf_13 rfl 3 rfl ?_
  obtain ⟨r_2, hc, hf⟩ := bd_e1 hf
  refine go_callV hC (c_X1_endOf_X1 a n o (x1 + 1) h r_2 ho ha hc) gX1_yardsOf_X1_endOf rfl ⟨rfl, rfl⟩ 3 e_X1_endOf ⟨Nat.le_of_ble_eq_true rfl, Nat.le_of_ble_eq_true rfl⟩ ho rfl rfl (st := [.int r_1, .ref 10]) (st1 := [.int r_2, .int r_1, .ref 10]) rfl rfl (Nat.le_of_ble_eq_true rfl) ⟨Nat.zero_le _, Nat.zero_le _⟩ dX1_yardsOf_14 ?_
  obtain ⟨r_3, hc, hf⟩ := bd_e1 hf
  refine go_callV hC (c_X3_yardsFrom r_1 r_2 h r_3 hc) gX1_yardsOf_X3_yardsFrom rfl ⟨rfl, rfl⟩ 2 e_X3_yardsFrom ⟨Nat.le_of_ble_eq_true rfl, Nat.le_of_ble_eq_true rfl⟩ (b_10 _) rfl rfl (st := []) (st1 := [.int r_3]) rfl rfl (Nat.le_of_ble_eq_true rfl) ⟨Nat.zero_le _, Nat.zero_le _⟩ dX1_yardsOf_17 ?_
  obtain rfl := so_1 hf
  exact hret _ _ rfl dX1_yardsOf_20
set_option maxRecDepth 100000 in
set_option maxHeartbeats 4000000 in
theorem c_X1_yardsOf_X7 (a n o : Nat) (x1 : Int32) (h : PH) (r : Int32) (ho : (l0_B ++ h.2.2.2)[o]? = some (.inr (7, [(0, 0), (0, 0), (2, a)]))) (ha : (l0_B ++ h.2.2.2)[a]? = some (.inl (0, n))) (hf : f_X1_yardsOf 7 a n o x1 h = some r) : Con yX1_yardsOf wsX1_yardsOf (rm_d 1) l0_B [.ref o, .int x1, .ref 10, .ref 17] h (some (.int r)) h := by

  refine con_i (ty := .int) (cc := cX1_yardsOf) (nL := 4) (by decide) rfl (Nat.le_of_ble_eq_true rfl) ?_
  intro C hC hret
  change Go l0_B C 0 0 0 [(0, .ref o), (1, .int x1), (2, .ref 10), (3, .ref 17)] [] h
  unfold f_X1_yardsOf at hf
  refine go_aload_n hC dX1_yardsOf_0 rfl 2 rfl ?_
  refine go_aload_n hC dX1_yardsOf_1 rfl 0 rfl ?_
  refine go_iload_n hC dX1_yardsOf_2 rfl 1 rfl ?_
  refine go_aload_n hC dX1_yardsOf_3 rfl 2 rfl ?_
  refine go_aload_n hC dX1_yardsOf_4 rfl 3 rfl ?_
  obtain ⟨r_1, hc, hf⟩ := bd_e1 hf
  refine go_callU hC (c_X1_endOf_X7 a n o x1 h r_1 ho ha hc) gX1_yardsOf_X1_endOf_u35X7 rfl ⟨rfl, rfl⟩ rfl 3 (by decide +kernel) ⟨Nat.le_of_ble_eq_true rfl, Nat.le_of_ble_eq_true rfl⟩ ho rfl rfl (st := [.ref 10]) (st1 := [.int r_1, .ref 10]) rfl rfl (Nat.le_of_ble_eq_true rfl) ⟨Nat.zero_le _, Nat.zero_le _⟩ dX1_yardsOf_5 ?_
  refine go_aload_n hC dX1_yardsOf_8 rfl 0 rfl ?_
  refine go_iload_n hC dX1_yardsOf_9 rfl 1 rfl ?_
  refine go_iconst hC dX1_yardsOf_10 k1_1 ?_
  refine go_iadd hC dX1_yardsOf_11 ?_
  refine go_aload_n hC dX1_yardsOf_12 rfl 2 rfl ?_
  refine go_aload_n hC dX1_yardsOf_13 rfl 3 rfl ?_
  obtain ⟨r_2, hc, hf⟩ := bd_e1 hf
  refine go_callU hC (c_X1_endOf_X7 a n o (x1 + 1) h r_2 ho ha hc) gX1_yardsOf_X1_endOf_u35X7 rfl ⟨rfl, rfl⟩ rfl 3 (by decide +kernel) ⟨Nat.le_of_ble_eq_true rfl, Nat.le_of_ble_eq_true rfl⟩ ho rfl rfl (st := [.int r_1, .ref 10]) (st1 := [.int r_2, .int r_1, .ref 10]) rfl rfl (Nat.le_of_ble_eq_true rfl) ⟨Nat.zero_le _, Nat.zero_le _⟩ dX1_yardsOf_14 ?_
  obtain ⟨r_3, hc, hf⟩ := bd_e1 hf
  refine go_callV hC (c_X3_yardsFrom r_1 r_2 h r_3 hc) gX1_yardsOf_X3_yardsFrom rfl ⟨rfl, rfl⟩ 2 e_X3_yardsFrom ⟨Nat.le_of_ble_eq_true rfl, Nat.le_of_ble_eq_true rfl⟩ (b_10 _) rfl rfl (st := []) (st1 := [.int r_3]) rfl rfl (Nat.le_of_ble_eq_true rfl) ⟨Nat.zero_le _, Nat.zero_le _⟩ dX1_yardsOf_17 ?_
  obtain rfl := so_1 hf
  exact hret _ _ rfl dX1_yardsOf_20
set_option maxRecDepth 100000 in
set_option maxHeartbeats 4000000 in
theorem c_X1_yardsOf_X9 (a n o : Nat) (x1 : Int32) (h : PH) (r : Int32) (ho : (l0_B ++ h.2.2.2)[o]? = some (.inr (9, [(0, 0), (0, 0), (2, a)]))) (ha : (l0_B ++ h.2.2.2)[a]? = some (.inl (0, n))) (hf : f_X1_yardsOf 9 a n o x1 h = some r) : Con yX1_yardsOf wsX1_yardsOf (rm_d 1) l0_B [.ref o, .int x1, .ref 10, .ref 17] h (some (.int r)) h := by

  refine con_i (ty := .int) (cc := cX1_yardsOf) (nL := 4) (by decide) rfl (Nat.le_of_ble_eq_true rfl) ?_
  intro C hC hret
  change Go l0_B C 0 0 0 [(0, .ref o), (1, .int x1), (2, .ref 10), (3, .ref 17)] [] h
  unfold f_X1_yardsOf at hf
  refine go_aload_n hC dX1_yardsOf_0 rfl 2 rfl ?_
  refine go_aload_n hC dX1_yardsOf_1 rfl 0 rfl ?_
  refine go_iload_n hC dX1_yardsOf_2 rfl 1 rfl ?_
  refine go_aload_n hC dX1_yardsOf_3 rfl 2 rfl ?_
  refine go_aload_n hC dX1_yardsOf_4 rfl 3 rfl ?_
  obtain ⟨r_1, hc, hf⟩ := bd_e1 hf
  refine go_callU hC (c_X1_endOf_X9 a n o x1 h r_1 ho ha hc) gX1_yardsOf_X1_endOf_u35X9 rfl ⟨rfl, rfl⟩ rfl 3 (by decide +kernel) ⟨Nat.le_of_ble_eq_true rfl, Nat.le_of_ble_eq_true rfl⟩ ho rfl rfl (st := [.ref 10]) (st1 := [.int r_1, .ref 10]) rfl rfl (Nat.le_of_ble_eq_true rfl) ⟨Nat.zero_le _, Nat.zero_le _⟩ dX1_yardsOf_5 ?_
  refine go_aload_n hC dX1_yardsOf_8 rfl 0 rfl ?_
  refine go_iload_n hC dX1_yardsOf_9 rfl 1 rfl ?_
  refine go_iconst hC dX1_yardsOf_10 k1_1 ?_
  refine go_iadd hC dX1_yardsOf_11 ?_
  refine go_aload_n hC dX1_yardsOf_12 rfl 2 rfl ?_
  refine go_aload_n hC dX1_yardsOf_13 rfl 3 rfl ?_
  obtain ⟨r_2, hc, hf⟩ := bd_e1 hf
  refine go_callU hC (c_X1_endOf_X9 a n o (x1 + 1) h r_2 ho ha hc) gX1_yardsOf_X1_endOf_u35X9 rfl ⟨rfl, rfl⟩ rfl 3 (by decide +kernel) ⟨Nat.le_of_ble_eq_true rfl, Nat.le_of_ble_eq_true rfl⟩ ho rfl rfl (st := [.int r_1, .ref 10]) (st1 := [.int r_2, .int r_1, .ref 10]) rfl rfl (Nat.le_of_ble_eq_true rfl) ⟨Nat.zero_le _, Nat.zero_le _⟩ dX1_yardsOf_14 ?_
  obtain ⟨r_3, hc, hf⟩ := bd_e1 hf
  refine go_callV hC (c_X3_yardsFrom r_1 r_2 h r_3 hc) gX1_yardsOf_X3_yardsFrom rfl ⟨rfl, rfl⟩ 2 e_X3_yardsFrom ⟨Nat.le_of_ble_eq_true rfl, Nat.le_of_ble_eq_true rfl⟩ (b_10 _) rfl rfl (st := []) (st1 := [.int r_3]) rfl rfl (Nat.le_of_ble_eq_true rfl) ⟨Nat.zero_le _, Nat.zero_le _⟩ dX1_yardsOf_17 ?_
  obtain rfl := so_1 hf
  exact hret _ _ rfl dX1_yardsOf_20
def vd_pieces (ci a n o : Nat) (h : PH) : Option (Int32) := if ci = 1 then f_X1_pieces ci a n o h else if ci = 7 then f_X7_pieces ci a n o h else f_X7_pieces ci a n o h
def lb_X1_canBeLaid_2 (ci a n o : Nat) (h : PH) (x3 : Int32) : Option ((Int32) ⊕ ((Int32) ⊕ (Int32))) :=
  bd_1 (vd_pieces ci a n o h) fun r_6 =>
  if r_6 ≤ x3 then (
  some (.inr (.inr x3)))
  else (
  bd_1 (f_X1_yardsOf ci a n o x3 h) fun r_7 =>
  if r_7 < 1000000 then (
  lt_b (x3 + 1) fun x3_8 =>
  some (.inl x3_8))
  else (
  some (.inr (.inl 0))))
def f_X1_canBeLaid (ci a n o : Nat) (h : PH) : Option (Int32) :=
  bd_1 (lp_f (fun s => lb_X1_canBeLaid_2 ci a n o h s) fu_l 0) fun s_11 => sw_b s_11 (fun r_13 => some r_13) fun e_12 =>
  some 1
set_option maxRecDepth 100000 in
set_option maxHeartbeats 4000000 in
theorem lw_X1_canBeLaid_2_X1 {C : GC} (hC : Cx C cX1_canBeLaid 4 wsX1_canBeLaid RX1 (some .boolean) (rm_d 2)) (a n o : Nat) (h : PH) : ∀ (n9 : Nat) (x3 : Int32) (y : (Int32) ⊕ (Int32)), lp_f (fun s => lb_X1_canBeLaid_2 1 a n o h s) n9 x3 = some y → (l0_B ++ h.2.2.2)[o]? = some (.inr (1, [(0, 0), (0, 0), (2, a)])) → (l0_B ++ h.2.2.2)[a]? = some (.inl (0, n)) → ∀ (hk : match y with | .inl r => (∀ (pc : Nat) (L : List (Nat × Value)), narrow .boolean (.int r) = .int r → decode cX1_canBeLaid pc = .ok (.ireturn, 1) → Go l0_B C 0 0 pc L [.int r] h) | .inr e => Go l0_B C 0 0 30 [] [] h), Go l0_B C 0 0 2 [(0, .ref o), (1, .ref 10), (2, .ref 17), (3, .int x3)] [] h := by

  intro n9
  induction n9 with
  | zero =>
    intro x3 y hlp
    cases hlp
  | succ n9 ih =>
    intro x3 y hlp ho ha hk
    obtain ⟨k9, z, hk9, hf, hy⟩ := lp_e hlp
    cases hk9
    replace hf : lb_X1_canBeLaid_2 1 a n o h x3 = some z := hf
    unfold lb_X1_canBeLaid_2 at hf
    refine go_iload_n hC dX1_canBeLaid_2 rfl 3 rfl ?_
    refine go_aload_n hC dX1_canBeLaid_3 rfl 0 rfl ?_
    obtain ⟨r_6, hc, hf⟩ := bd_e1 hf
    refine go_callV hC (c_X1_pieces_X1 a n o h r_6 ho ha hc) gX1_canBeLaid_X1_pieces rfl ⟨rfl, rfl⟩ 0 e_X1_pieces ⟨Nat.le_of_ble_eq_true rfl, Nat.le_of_ble_eq_true rfl⟩ ho rfl rfl (st := [.int x3]) (st1 := [.int r_6, .int x3]) rfl rfl (Nat.le_of_ble_eq_true rfl) ⟨Nat.zero_le _, Nat.zero_le _⟩ dX1_canBeLaid_4 ?_
    refine go_icmp_ge hC dX1_canBeLaid_7 (tgt := 30) (by decide) (fun c_10 => ?_) (fun c_10 => ?_)
    · replace hf := if_t c_10 hf
      obtain rfl := so_1 hf
      obtain rfl := lp_x hy
      refine go_sub [] rfl ?_
      exact hk
    · replace hf := if_f c_10 hf
      refine go_aload_n hC dX1_canBeLaid_10 rfl 0 rfl ?_
      refine go_iload_n hC dX1_canBeLaid_11 rfl 3 rfl ?_
      refine go_aload_n hC dX1_canBeLaid_12 rfl 1 rfl ?_
      refine go_aload_n hC dX1_canBeLaid_13 rfl 2 rfl ?_
      obtain ⟨r_7, hc, hf⟩ := bd_e1 hf
      refine go_callV hC (c_X1_yardsOf_X1 a n o x3 h r_7 ho ha hc) gX1_canBeLaid_X1_yardsOf rfl ⟨rfl, rfl⟩ 3 e_X1_yardsOf ⟨Nat.le_of_ble_eq_true rfl, Nat.le_of_ble_eq_true rfl⟩ ho rfl rfl (st := []) (st1 := [.int r_7]) rfl rfl (Nat.le_of_ble_eq_true rfl) ⟨Nat.zero_le _, Nat.zero_le _⟩ dX1_canBeLaid_14 ?_
      refine go_ldc hC (v := 1000000) (List.mem_cons_of_mem _ (List.mem_append_left _ (List.mem_append_left _ (List.mem_append_left _ (List.mem_append_left _ (List.mem_append_left _ (List.mem_append_left _ (List.mem_of_getElem? (i := 0) rfl)))))))) dX1_canBeLaid_17 ?_
      refine go_icmp_lt hC dX1_canBeLaid_19 (tgt := 24) (by decide) (fun c_9 => ?_) (fun c_9 => ?_)
      · replace hf := if_t c_9 hf
        obtain ⟨x3_8, ex3_8, hf⟩ := lt_e hf
        refine go_iinc hC dX1_canBeLaid_24 3 rfl k1_1 ex3_8 (Nat.le_of_ble_eq_true rfl) rfl ?_
        refine go_goto hC dX1_canBeLaid_27 (tgt := 2) (by decide) ?_
        obtain rfl := so_1 hf
        refine go_sub [1, 2, 3, 0] rfl ?_
        exact ih x3_8 _ (lp_c hy) ho ha hk
      · replace hf := if_f c_9 hf
        refine go_iconst hC dX1_canBeLaid_22 k1_0 ?_
        obtain rfl := so_1 hf
        obtain rfl := lp_x hy
        exact hk _ _ (zo_n (Or.inl rfl)) dX1_canBeLaid_23
theorem e_X1_canBeLaid : yX1_canBeLaid.cls = RX1 ∧ yX1_canBeLaid.cls ≠ "java/lang/invoke/MethodHandle" ∧ yX1_canBeLaid.cls ≠ "java/lang/invoke/VarHandle" ∧ (parseMethodDescriptor yX1_canBeLaid.desc).map (fun d => d.parameters.length) = some 2 := by decide +kernel
set_option maxRecDepth 100000 in
set_option maxHeartbeats 4000000 in
theorem c_X1_canBeLaid_X1 (a n o : Nat) (h : PH) (r : Int32) (ho : (l0_B ++ h.2.2.2)[o]? = some (.inr (1, [(0, 0), (0, 0), (2, a)]))) (ha : (l0_B ++ h.2.2.2)[a]? = some (.inl (0, n))) (hf : f_X1_canBeLaid 1 a n o h = some r) : Con yX1_canBeLaid wsX1_canBeLaid (rm_d 2) l0_B [.ref o, .ref 10, .ref 17] h (some (.int r)) h := by

  refine con_i (ty := .boolean) (cc := cX1_canBeLaid) (nL := 4) (by decide) rfl (Nat.le_of_ble_eq_true rfl) ?_
  intro C hC hret
  change Go l0_B C 0 0 0 [(0, .ref o), (1, .ref 10), (2, .ref 17)] [] h
  unfold f_X1_canBeLaid at hf
  refine go_iconst hC dX1_canBeLaid_0 k1_0 ?_
  refine go_istore_n hC dX1_canBeLaid_1 rfl (Nat.le_of_ble_eq_true rfl) rfl ?_
  obtain ⟨s_11, hl, hf⟩ := bd_e1 hf
  refine go_sub [1, 2, 3, 0] rfl ?_
  refine lw_X1_canBeLaid_2_X1 hC a n o h _ 0 s_11 hl ho ha ?_
  rcases s_11 with r_13 | e_12
  · replace hf : some r_13 = some _ := hf
    cases hf
    exact hret
  · replace hf := sw_r hf
    refine go_iconst hC dX1_canBeLaid_30 k1_1 ?_
    obtain rfl := so_1 hf
    exact hret _ _ (zo_n (Or.inr rfl)) dX1_canBeLaid_31
set_option maxRecDepth 100000 in
set_option maxHeartbeats 4000000 in
theorem lw_X1_canBeLaid_2_X7 {C : GC} (hC : Cx C cX1_canBeLaid 4 wsX1_canBeLaid RX1 (some .boolean) (rm_d 2)) (a n o : Nat) (h : PH) : ∀ (n9 : Nat) (x3 : Int32) (y : (Int32) ⊕ (Int32)), lp_f (fun s => lb_X1_canBeLaid_2 7 a n o h s) n9 x3 = some y → (l0_B ++ h.2.2.2)[o]? = some (.inr (7, [(0, 0), (0, 0), (2, a)])) → (l0_B ++ h.2.2.2)[a]? = some (.inl (0, n)) → ∀ (hk : match y with | .inl r => (∀ (pc : Nat) (L : List (Nat × Value)), narrow .boolean (.int r) = .int r → decode cX1_canBeLaid pc = .ok (.ireturn, 1) → Go l0_B C 0 0 pc L [.int r] h) | .inr e => Go l0_B C 0 0 30 [] [] h), Go l0_B C 0 0 2 [(0, .ref o), (1, .ref 10), (2, .ref 17), (3, .int x3)] [] h := by

  intro n9
  induction n9 with
  | zero =>
    intro x3 y hlp
    cases hlp
  | succ n9 ih =>
    intro x3 y hlp ho ha hk
    obtain ⟨k9, z, hk9, hf, hy⟩ := lp_e hlp
    cases hk9
    replace hf : lb_X1_canBeLaid_2 7 a n o h x3 = some z := hf
    unfold lb_X1_canBeLaid_2 at hf
    refine go_iload_n hC dX1_canBeLaid_2 rfl 3 rfl ?_
    refine go_aload_n hC dX1_canBeLaid_3 rfl 0 rfl ?_
    obtain ⟨r_6, hc, hf⟩ := bd_e1 hf
    refine go_callO hC (c_X7_pieces_X7 a n o h r_6 ho ha hc) gX1_canBeLaid_X7_pieces_u26X7 rfl ⟨rfl, rfl⟩ (List.mem_cons_of_mem _ (List.mem_append_left _ (List.mem_append_left _ (List.mem_append_left _ (List.mem_append_left _ (List.mem_append_left _ (List.mem_append_left _ (List.mem_of_getElem? (i := 5) rfl)))))))) 0 (by decide +kernel) ⟨Nat.le_of_ble_eq_true rfl, Nat.le_of_ble_eq_true rfl⟩ ho rfl rfl (st := [.int x3]) (st1 := [.int r_6, .int x3]) rfl rfl (Nat.le_of_ble_eq_true rfl) ⟨Nat.zero_le _, Nat.zero_le _⟩ dX1_canBeLaid_4 ?_
    refine go_icmp_ge hC dX1_canBeLaid_7 (tgt := 30) (by decide) (fun c_10 => ?_) (fun c_10 => ?_)
    · replace hf := if_t c_10 hf
      obtain rfl := so_1 hf
      obtain rfl := lp_x hy
      refine go_sub [] rfl ?_
      exact hk
    · replace hf := if_f c_10 hf
      refine go_aload_n hC dX1_canBeLaid_10 rfl 0 rfl ?_
      refine go_iload_n hC dX1_canBeLaid_11 rfl 3 rfl ?_
      refine go_aload_n hC dX1_canBeLaid_12 rfl 1 rfl ?_
      refine go_aload_n hC dX1_canBeLaid_13 rfl 2 rfl ?_
      obtain ⟨r_7, hc, hf⟩ := bd_e1 hf
      refine go_callU hC (c_X1_yardsOf_X7 a n o x3 h r_7 ho ha hc) gX1_canBeLaid_X1_yardsOf_u30X7 rfl ⟨rfl, rfl⟩ rfl 3 (by decide +kernel) ⟨Nat.le_of_ble_eq_true rfl, Nat.le_of_ble_eq_true rfl⟩ ho rfl rfl (st := []) (st1 := [.int r_7]) rfl rfl (Nat.le_of_ble_eq_true rfl) ⟨Nat.zero_le _, Nat.zero_le _⟩ dX1_canBeLaid_14 ?_
      refine go_ldc hC (v := 1000000) (List.mem_cons_of_mem _ (List.mem_append_left _ (List.mem_append_left _ (List.mem_append_left _ (List.mem_append_left _ (List.mem_append_left _ (List.mem_append_left _ (List.mem_of_getElem? (i := 0) rfl)))))))) dX1_canBeLaid_17 ?_
      refine go_icmp_lt hC dX1_canBeLaid_19 (tgt := 24) (by decide) (fun c_9 => ?_) (fun c_9 => ?_)
      · replace hf := if_t c_9 hf
        obtain ⟨x3_8, ex3_8, hf⟩ := lt_e hf
        refine go_iinc hC dX1_canBeLaid_24 3 rfl k1_1 ex3_8 (Nat.le_of_ble_eq_true rfl) rfl ?_
        refine go_goto hC dX1_canBeLaid_27 (tgt := 2) (by decide) ?_
        obtain rfl := so_1 hf
        refine go_sub [1, 2, 3, 0] rfl ?_
        exact ih x3_8 _ (lp_c hy) ho ha hk
      · replace hf := if_f c_9 hf
        refine go_iconst hC dX1_canBeLaid_22 k1_0 ?_
        obtain rfl := so_1 hf
        obtain rfl := lp_x hy
        exact hk _ _ (zo_n (Or.inl rfl)) dX1_canBeLaid_23
set_option maxRecDepth 100000 in
set_option maxHeartbeats 4000000 in
theorem c_X1_canBeLaid_X7 (a n o : Nat) (h : PH) (r : Int32) (ho : (l0_B ++ h.2.2.2)[o]? = some (.inr (7, [(0, 0), (0, 0), (2, a)]))) (ha : (l0_B ++ h.2.2.2)[a]? = some (.inl (0, n))) (hf : f_X1_canBeLaid 7 a n o h = some r) : Con yX1_canBeLaid wsX1_canBeLaid (rm_d 2) l0_B [.ref o, .ref 10, .ref 17] h (some (.int r)) h := by

  refine con_i (ty := .boolean) (cc := cX1_canBeLaid) (nL := 4) (by decide) rfl (Nat.le_of_ble_eq_true rfl) ?_
  intro C hC hret
  change Go l0_B C 0 0 0 [(0, .ref o), (1, .ref 10), (2, .ref 17)] [] h
  unfold f_X1_canBeLaid at hf
  refine go_iconst hC dX1_canBeLaid_0 k1_0 ?_
  refine go_istore_n hC dX1_canBeLaid_1 rfl (Nat.le_of_ble_eq_true rfl) rfl ?_
  obtain ⟨s_11, hl, hf⟩ := bd_e1 hf
  refine go_sub [1, 2, 3, 0] rfl ?_
  refine lw_X1_canBeLaid_2_X7 hC a n o h _ 0 s_11 hl ho ha ?_
  rcases s_11 with r_13 | e_12
  · replace hf : some r_13 = some _ := hf
    cases hf
    exact hret
  · replace hf := sw_r hf
    refine go_iconst hC dX1_canBeLaid_30 k1_1 ?_
    obtain rfl := so_1 hf
    exact hret _ _ (zo_n (Or.inr rfl)) dX1_canBeLaid_31
set_option maxRecDepth 100000 in
set_option maxHeartbeats 4000000 in
theorem lw_X1_canBeLaid_2_X9 {C : GC} (hC : Cx C cX1_canBeLaid 4 wsX1_canBeLaid RX1 (some .boolean) (rm_d 2)) (a n o : Nat) (h : PH) : ∀ (n9 : Nat) (x3 : Int32) (y : (Int32) ⊕ (Int32)), lp_f (fun s => lb_X1_canBeLaid_2 9 a n o h s) n9 x3 = some y → (l0_B ++ h.2.2.2)[o]? = some (.inr (9, [(0, 0), (0, 0), (2, a)])) → (l0_B ++ h.2.2.2)[a]? = some (.inl (0, n)) → ∀ (hk : match y with | .inl r => (∀ (pc : Nat) (L : List (Nat × Value)), narrow .boolean (.int r) = .int r → decode cX1_canBeLaid pc = .ok (.ireturn, 1) → Go l0_B C 0 0 pc L [.int r] h) | .inr e => Go l0_B C 0 0 30 [] [] h), Go l0_B C 0 0 2 [(0, .ref o), (1, .ref 10), (2, .ref 17), (3, .int x3)] [] h := by

  intro n9
  induction n9 with
  | zero =>
    intro x3 y hlp
    cases hlp
  | succ n9 ih =>
    intro x3 y hlp ho ha hk
    obtain ⟨k9, z, hk9, hf, hy⟩ := lp_e hlp
    cases hk9
    replace hf : lb_X1_canBeLaid_2 9 a n o h x3 = some z := hf
    unfold lb_X1_canBeLaid_2 at hf
    refine go_iload_n hC dX1_canBeLaid_2 rfl 3 rfl ?_
    refine go_aload_n hC dX1_canBeLaid_3 rfl 0 rfl ?_
    obtain ⟨r_6, hc, hf⟩ := bd_e1 hf
    refine go_callO hC (c_X7_pieces_X9 a n o h r_6 ho ha hc) gX1_canBeLaid_X7_pieces_u26X9 rfl ⟨rfl, rfl⟩ (List.mem_cons_of_mem _ (List.mem_append_left _ (List.mem_append_left _ (List.mem_append_left _ (List.mem_append_left _ (List.mem_append_left _ (List.mem_append_left _ (List.mem_of_getElem? (i := 5) rfl)))))))) 0 (by decide +kernel) ⟨Nat.le_of_ble_eq_true rfl, Nat.le_of_ble_eq_true rfl⟩ ho rfl rfl (st := [.int x3]) (st1 := [.int r_6, .int x3]) rfl rfl (Nat.le_of_ble_eq_true rfl) ⟨Nat.zero_le _, Nat.zero_le _⟩ dX1_canBeLaid_4 ?_
    refine go_icmp_ge hC dX1_canBeLaid_7 (tgt := 30) (by decide) (fun c_10 => ?_) (fun c_10 => ?_)
    · replace hf := if_t c_10 hf
      obtain rfl := so_1 hf
      obtain rfl := lp_x hy
      refine go_sub [] rfl ?_
      exact hk
    · replace hf := if_f c_10 hf
      refine go_aload_n hC dX1_canBeLaid_10 rfl 0 rfl ?_
      refine go_iload_n hC dX1_canBeLaid_11 rfl 3 rfl ?_
      refine go_aload_n hC dX1_canBeLaid_12 rfl 1 rfl ?_
      refine go_aload_n hC dX1_canBeLaid_13 rfl 2 rfl ?_
      obtain ⟨r_7, hc, hf⟩ := bd_e1 hf
      refine go_callU hC (c_X1_yardsOf_X9 a n o x3 h r_7 ho ha hc) gX1_canBeLaid_X1_yardsOf_u30X9 rfl ⟨rfl, rfl⟩ rfl 3 (by decide +kernel) ⟨Nat.le_of_ble_eq_true rfl, Nat.le_of_ble_eq_true rfl⟩ ho rfl rfl (st := []) (st1 := [.int r_7]) rfl rfl (Nat.le_of_ble_eq_true rfl) ⟨Nat.zero_le _, Nat.zero_le _⟩ dX1_canBeLaid_14 ?_
      refine go_ldc hC (v := 1000000) (List.mem_cons_of_mem _ (List.mem_append_left _ (List.mem_append_left _ (List.mem_append_left _ (List.mem_append_left _ (List.mem_append_left _ (List.mem_append_left _ (List.mem_of_getElem? (i := 0) rfl)))))))) dX1_canBeLaid_17 ?_
      refine go_icmp_lt hC dX1_canBeLaid_19 (tgt := 24) (by decide) (fun c_9 => ?_) (fun c_9 => ?_)
      · replace hf := if_t c_9 hf
        obtain ⟨x3_8, ex3_8, hf⟩ := lt_e hf
        refine go_iinc hC dX1_canBeLaid_24 3 rfl k1_1 ex3_8 (Nat.le_of_ble_eq_true rfl) rfl ?_
        refine go_goto hC dX1_canBeLaid_27 (tgt := 2) (by decide) ?_
        obtain rfl := so_1 hf
        refine go_sub [1, 2, 3, 0] rfl ?_
        exact ih x3_8 _ (lp_c hy) ho ha hk
      · replace hf := if_f c_9 hf
        refine go_iconst hC dX1_canBeLaid_22 k1_0 ?_
        obtain rfl := so_1 hf
        obtain rfl := lp_x hy
        exact hk _ _ (zo_n (Or.inl rfl)) dX1_canBeLaid_23
set_option maxRecDepth 100000 in
set_option maxHeartbeats 4000000 in
theorem c_X1_canBeLaid_X9 (a n o : Nat) (h : PH) (r : Int32) (ho : (l0_B ++ h.2.2.2)[o]? = some (.inr (9, [(0, 0), (0, 0), (2, a)]))) (ha : (l0_B ++ h.2.2.2)[a]? = some (.inl (0, n))) (hf : f_X1_canBeLaid 9 a n o h = some r) : Con yX1_canBeLaid wsX1_canBeLaid (rm_d 2) l0_B [.ref o, .ref 10, .ref 17] h (some (.int r)) h := by

  refine con_i (ty := .boolean) (cc := cX1_canBeLaid) (nL := 4) (by decide) rfl (Nat.le_of_ble_eq_true rfl) ?_
  intro C hC hret
  change Go l0_B C 0 0 0 [(0, .ref o), (1, .ref 10), (2, .ref 17)] [] h
  unfold f_X1_canBeLaid at hf
  refine go_iconst hC dX1_canBeLaid_0 k1_0 ?_
  refine go_istore_n hC dX1_canBeLaid_1 rfl (Nat.le_of_ble_eq_true rfl) rfl ?_
  obtain ⟨s_11, hl, hf⟩ := bd_e1 hf
  refine go_sub [1, 2, 3, 0] rfl ?_
  refine lw_X1_canBeLaid_2_X9 hC a n o h _ 0 s_11 hl ho ha ?_
  rcases s_11 with r_13 | e_12
  · replace hf : some r_13 = some _ := hf
    cases hf
    exact hret
  · replace hf := sw_r hf
    refine go_iconst hC dX1_canBeLaid_30 k1_1 ?_
    obtain rfl := so_1 hf
    exact hret _ _ (zo_n (Or.inr rfl)) dX1_canBeLaid_31
def lb_X1_allYards_5 (ci a n o : Nat) (h : PH) (x3 : Int32) (x4 : Int32) : Option ((Int32 × Int32) ⊕ (Int32 × Int32)) :=
  bd_1 (vd_pieces ci a n o h) fun r_6 =>
  if r_6 ≤ x4 then (
  some (.inr (x3, x4)))
  else (
  bd_1 (f_X1_yardsOf ci a n o x4 h) fun r_7 =>
  lt_b (x3 + r_7) fun x3_8 =>
  lt_b (x4 + 1) fun x4_9 =>
  some (.inl (x3_8, x4_9)))
def f_X1_allYards (ci a n o : Nat) (h : PH) : Option (Int32) :=
  bd_1 (lp_f (fun s => lb_X1_allYards_5 ci a n o h s.1 s.2) fu_l (0, 0)) fun s_11 =>
  some s_11.1
set_option maxRecDepth 100000 in
set_option maxHeartbeats 4000000 in
theorem lw_X1_allYards_5_X1 {C : GC} (hC : Cx C cX1_allYards 5 wsX1_allYards RX1 (some .int) (rm_d 2)) (a n o : Nat) (h : PH) : ∀ (n9 : Nat) (x3 : Int32) (x4 : Int32) (y : Int32 × Int32), lp_f (fun s => lb_X1_allYards_5 1 a n o h s.1 s.2) n9 (x3, x4) = some y → (l0_B ++ h.2.2.2)[o]? = some (.inr (1, [(0, 0), (0, 0), (2, a)])) → (l0_B ++ h.2.2.2)[a]? = some (.inl (0, n)) → ∀ (hk : Go l0_B C 0 0 31 [(3, .int y.1)] [] h), Go l0_B C 0 0 5 [(0, .ref o), (1, .ref 10), (2, .ref 17), (3, .int x3), (4, .int x4)] [] h := by

  intro n9
  induction n9 with
  | zero =>
    intro x3 x4 y hlp
    cases hlp
  | succ n9 ih =>
    intro x3 x4 y hlp ho ha hk
    obtain ⟨k9, z, hk9, hf, hy⟩ := lp_e hlp
    cases hk9
    replace hf : lb_X1_allYards_5 1 a n o h x3 x4 = some z := hf
    unfold lb_X1_allYards_5 at hf
    refine go_iload hC dX1_allYards_5 4 rfl ?_
    refine go_aload_n hC dX1_allYards_7 rfl 0 rfl ?_
    obtain ⟨r_6, hc, hf⟩ := bd_e1 hf
    refine go_callV hC (c_X1_pieces_X1 a n o h r_6 ho ha hc) gX1_allYards_X1_pieces rfl ⟨rfl, rfl⟩ 0 e_X1_pieces ⟨Nat.le_of_ble_eq_true rfl, Nat.le_of_ble_eq_true rfl⟩ ho rfl rfl (st := [.int x4]) (st1 := [.int r_6, .int x4]) rfl rfl (Nat.le_of_ble_eq_true rfl) ⟨Nat.zero_le _, Nat.zero_le _⟩ dX1_allYards_8 ?_
    refine go_icmp_ge hC dX1_allYards_11 (tgt := 31) (by decide) (fun c_10 => ?_) (fun c_10 => ?_)
    · replace hf := if_t c_10 hf
      obtain rfl := so_1 hf
      obtain rfl := lp_x hy
      refine go_sub [3] rfl ?_
      exact hk
    · replace hf := if_f c_10 hf
      refine go_iload_n hC dX1_allYards_14 rfl 3 rfl ?_
      refine go_aload_n hC dX1_allYards_15 rfl 0 rfl ?_
      refine go_iload hC dX1_allYards_16 4 rfl ?_
      refine go_aload_n hC dX1_allYards_18 rfl 1 rfl ?_
      refine go_aload_n hC dX1_allYards_19 rfl 2 rfl ?_
      obtain ⟨r_7, hc, hf⟩ := bd_e1 hf
      refine go_callV hC (c_X1_yardsOf_X1 a n o x4 h r_7 ho ha hc) gX1_allYards_X1_yardsOf rfl ⟨rfl, rfl⟩ 3 e_X1_yardsOf ⟨Nat.le_of_ble_eq_true rfl, Nat.le_of_ble_eq_true rfl⟩ ho rfl rfl (st := [.int x3]) (st1 := [.int r_7, .int x3]) rfl rfl (Nat.le_of_ble_eq_true rfl) ⟨Nat.zero_le _, Nat.zero_le _⟩ dX1_allYards_20 ?_
      refine go_iadd hC dX1_allYards_23 ?_
      obtain ⟨x3_8, ex3_8, hf⟩ := lt_e hf
      refine go_topi ex3_8 ?_
      refine go_istore_n hC dX1_allYards_24 rfl (Nat.le_of_ble_eq_true rfl) rfl ?_
      obtain ⟨x4_9, ex4_9, hf⟩ := lt_e hf
      refine go_iinc hC dX1_allYards_25 4 rfl k1_1 ex4_9 (Nat.le_of_ble_eq_true rfl) rfl ?_
      refine go_goto hC dX1_allYards_28 (tgt := 5) (by decide) ?_
      obtain rfl := so_1 hf
      refine go_sub [2, 3, 4, 1, 0] rfl ?_
      exact ih x3_8 x4_9 _ (lp_c hy) ho ha hk
theorem e_X1_allYards : yX1_allYards.cls = RX1 ∧ yX1_allYards.cls ≠ "java/lang/invoke/MethodHandle" ∧ yX1_allYards.cls ≠ "java/lang/invoke/VarHandle" ∧ (parseMethodDescriptor yX1_allYards.desc).map (fun d => d.parameters.length) = some 2 := by decide +kernel
set_option maxRecDepth 100000 in
set_option maxHeartbeats 4000000 in
theorem c_X1_allYards_X1 (a n o : Nat) (h : PH) (r : Int32) (ho : (l0_B ++ h.2.2.2)[o]? = some (.inr (1, [(0, 0), (0, 0), (2, a)]))) (ha : (l0_B ++ h.2.2.2)[a]? = some (.inl (0, n))) (hf : f_X1_allYards 1 a n o h = some r) : Con yX1_allYards wsX1_allYards (rm_d 2) l0_B [.ref o, .ref 10, .ref 17] h (some (.int r)) h := by

  refine con_i (ty := .int) (cc := cX1_allYards) (nL := 5) (by decide) rfl (Nat.le_of_ble_eq_true rfl) ?_
  intro C hC hret
  change Go l0_B C 0 0 0 [(0, .ref o), (1, .ref 10), (2, .ref 17)] [] h
  unfold f_X1_allYards at hf
  refine go_iconst hC dX1_allYards_0 k1_0 ?_
  refine go_istore_n hC dX1_allYards_1 rfl (Nat.le_of_ble_eq_true rfl) rfl ?_
  refine go_iconst hC dX1_allYards_2 k1_0 ?_
  refine go_istore hC dX1_allYards_3 (Nat.le_of_ble_eq_true rfl) rfl ?_
  obtain ⟨s_11, hl, hf⟩ := bd_e1 hf
  refine go_sub [2, 3, 4, 1, 0] rfl ?_
  refine lw_X1_allYards_5_X1 hC a n o h _ 0 0 s_11 hl ho ha ?_
  refine go_iload_n hC dX1_allYards_31 rfl 0 rfl ?_
  obtain rfl := so_1 hf
  exact hret _ _ rfl dX1_allYards_32
set_option maxRecDepth 100000 in
set_option maxHeartbeats 4000000 in
theorem lw_X1_allYards_5_X7 {C : GC} (hC : Cx C cX1_allYards 5 wsX1_allYards RX1 (some .int) (rm_d 2)) (a n o : Nat) (h : PH) : ∀ (n9 : Nat) (x3 : Int32) (x4 : Int32) (y : Int32 × Int32), lp_f (fun s => lb_X1_allYards_5 7 a n o h s.1 s.2) n9 (x3, x4) = some y → (l0_B ++ h.2.2.2)[o]? = some (.inr (7, [(0, 0), (0, 0), (2, a)])) → (l0_B ++ h.2.2.2)[a]? = some (.inl (0, n)) → ∀ (hk : Go l0_B C 0 0 31 [(3, .int y.1)] [] h), Go l0_B C 0 0 5 [(0, .ref o), (1, .ref 10), (2, .ref 17), (3, .int x3), (4, .int x4)] [] h := by

  intro n9
  induction n9 with
  | zero =>
    intro x3 x4 y hlp
    cases hlp
  | succ n9 ih =>
    intro x3 x4 y hlp ho ha hk
    obtain ⟨k9, z, hk9, hf, hy⟩ := lp_e hlp
    cases hk9
    replace hf : lb_X1_allYards_5 7 a n o h x3 x4 = some z := hf
    unfold lb_X1_allYards_5 at hf
    refine go_iload hC dX1_allYards_5 4 rfl ?_
    refine go_aload_n hC dX1_allYards_7 rfl 0 rfl ?_
    obtain ⟨r_6, hc, hf⟩ := bd_e1 hf
    refine go_callO hC (c_X7_pieces_X7 a n o h r_6 ho ha hc) gX1_allYards_X7_pieces_u26X7 rfl ⟨rfl, rfl⟩ (List.mem_cons_of_mem _ (List.mem_append_left _ (List.mem_append_left _ (List.mem_append_left _ (List.mem_append_left _ (List.mem_append_left _ (List.mem_append_left _ (List.mem_of_getElem? (i := 4) rfl)))))))) 0 (by decide +kernel) ⟨Nat.le_of_ble_eq_true rfl, Nat.le_of_ble_eq_true rfl⟩ ho rfl rfl (st := [.int x4]) (st1 := [.int r_6, .int x4]) rfl rfl (Nat.le_of_ble_eq_true rfl) ⟨Nat.zero_le _, Nat.zero_le _⟩ dX1_allYards_8 ?_
    refine go_icmp_ge hC dX1_allYards_11 (tgt := 31) (by decide) (fun c_10 => ?_) (fun c_10 => ?_)
    · replace hf := if_t c_10 hf
      obtain rfl := so_1 hf
      obtain rfl := lp_x hy
      refine go_sub [3] rfl ?_
      exact hk
    · replace hf := if_f c_10 hf
      refine go_iload_n hC dX1_allYards_14 rfl 3 rfl ?_
      refine go_aload_n hC dX1_allYards_15 rfl 0 rfl ?_
      refine go_iload hC dX1_allYards_16 4 rfl ?_
      refine go_aload_n hC dX1_allYards_18 rfl 1 rfl ?_
      refine go_aload_n hC dX1_allYards_19 rfl 2 rfl ?_
      obtain ⟨r_7, hc, hf⟩ := bd_e1 hf
      refine go_callU hC (c_X1_yardsOf_X7 a n o x4 h r_7 ho ha hc) gX1_allYards_X1_yardsOf_u30X7 rfl ⟨rfl, rfl⟩ rfl 3 (by decide +kernel) ⟨Nat.le_of_ble_eq_true rfl, Nat.le_of_ble_eq_true rfl⟩ ho rfl rfl (st := [.int x3]) (st1 := [.int r_7, .int x3]) rfl rfl (Nat.le_of_ble_eq_true rfl) ⟨Nat.zero_le _, Nat.zero_le _⟩ dX1_allYards_20 ?_
      refine go_iadd hC dX1_allYards_23 ?_
      obtain ⟨x3_8, ex3_8, hf⟩ := lt_e hf
      refine go_topi ex3_8 ?_
      refine go_istore_n hC dX1_allYards_24 rfl (Nat.le_of_ble_eq_true rfl) rfl ?_
      obtain ⟨x4_9, ex4_9, hf⟩ := lt_e hf
      refine go_iinc hC dX1_allYards_25 4 rfl k1_1 ex4_9 (Nat.le_of_ble_eq_true rfl) rfl ?_
      refine go_goto hC dX1_allYards_28 (tgt := 5) (by decide) ?_
      obtain rfl := so_1 hf
      refine go_sub [2, 3, 4, 1, 0] rfl ?_
      exact ih x3_8 x4_9 _ (lp_c hy) ho ha hk
set_option maxRecDepth 100000 in
set_option maxHeartbeats 4000000 in
theorem c_X1_allYards_X7 (a n o : Nat) (h : PH) (r : Int32) (ho : (l0_B ++ h.2.2.2)[o]? = some (.inr (7, [(0, 0), (0, 0), (2, a)]))) (ha : (l0_B ++ h.2.2.2)[a]? = some (.inl (0, n))) (hf : f_X1_allYards 7 a n o h = some r) : Con yX1_allYards wsX1_allYards (rm_d 2) l0_B [.ref o, .ref 10, .ref 17] h (some (.int r)) h := by

  refine con_i (ty := .int) (cc := cX1_allYards) (nL := 5) (by decide) rfl (Nat.le_of_ble_eq_true rfl) ?_
  intro C hC hret
  change Go l0_B C 0 0 0 [(0, .ref o), (1, .ref 10), (2, .ref 17)] [] h
  unfold f_X1_allYards at hf
  refine go_iconst hC dX1_allYards_0 k1_0 ?_
  refine go_istore_n hC dX1_allYards_1 rfl (Nat.le_of_ble_eq_true rfl) rfl ?_
  refine go_iconst hC dX1_allYards_2 k1_0 ?_
  refine go_istore hC dX1_allYards_3 (Nat.le_of_ble_eq_true rfl) rfl ?_
  obtain ⟨s_11, hl, hf⟩ := bd_e1 hf
  refine go_sub [2, 3, 4, 1, 0] rfl ?_
  refine lw_X1_allYards_5_X7 hC a n o h _ 0 0 s_11 hl ho ha ?_
  refine go_iload_n hC dX1_allYards_31 rfl 0 rfl ?_
  obtain rfl := so_1 hf
  exact hret _ _ rfl dX1_allYards_32
set_option maxRecDepth 100000 in
set_option maxHeartbeats 4000000 in
theorem lw_X1_allYards_5_X9 {C : GC} (hC : Cx C cX1_allYards 5 wsX1_allYards RX1 (some .int) (rm_d 2)) (a n o : Nat) (h : PH) : ∀ (n9 : Nat) (x3 : Int32) (x4 : Int32) (y : Int32 × Int32), lp_f (fun s => lb_X1_allYards_5 9 a n o h s.1 s.2) n9 (x3, x4) = some y → (l0_B ++ h.2.2.2)[o]? = some (.inr (9, [(0, 0), (0, 0), (2, a)])) → (l0_B ++ h.2.2.2)[a]? = some (.inl (0, n)) → ∀ (hk : Go l0_B C 0 0 31 [(3, .int y.1)] [] h), Go l0_B C 0 0 5 [(0, .ref o), (1, .ref 10), (2, .ref 17), (3, .int x3), (4, .int x4)] [] h := by

  intro n9
  induction n9 with
  | zero =>
    intro x3 x4 y hlp
    cases hlp
  | succ n9 ih =>
    intro x3 x4 y hlp ho ha hk
    obtain ⟨k9, z, hk9, hf, hy⟩ := lp_e hlp
    cases hk9
    replace hf : lb_X1_allYards_5 9 a n o h x3 x4 = some z := hf
    unfold lb_X1_allYards_5 at hf
    refine go_iload hC dX1_allYards_5 4 rfl ?_
    refine go_aload_n hC dX1_allYards_7 rfl 0 rfl ?_
    obtain ⟨r_6, hc, hf⟩ := bd_e1 hf
    refine go_callO hC (c_X7_pieces_X9 a n o h r_6 ho ha hc) gX1_allYards_X7_pieces_u26X9 rfl ⟨rfl, rfl⟩ (List.mem_cons_of_mem _ (List.mem_append_left _ (List.mem_append_left _ (List.mem_append_left _ (List.mem_append_left _ (List.mem_append_left _ (List.mem_append_left _ (List.mem_of_getElem? (i := 4) rfl)))))))) 0 (by decide +kernel) ⟨Nat.le_of_ble_eq_true rfl, Nat.le_of_ble_eq_true rfl⟩ ho rfl rfl (st := [.int x4]) (st1 := [.int r_6, .int x4]) rfl rfl (Nat.le_of_ble_eq_true rfl) ⟨Nat.zero_le _, Nat.zero_le _⟩ dX1_allYards_8 ?_
    refine go_icmp_ge hC dX1_allYards_11 (tgt := 31) (by decide) (fun c_10 => ?_) (fun c_10 => ?_)
    · replace hf := if_t c_10 hf
      obtain rfl := so_1 hf
      obtain rfl := lp_x hy
      refine go_sub [3] rfl ?_
      exact hk
    · replace hf := if_f c_10 hf
      refine go_iload_n hC dX1_allYards_14 rfl 3 rfl ?_
      refine go_aload_n hC dX1_allYards_15 rfl 0 rfl ?_
      refine go_iload hC dX1_allYards_16 4 rfl ?_
      refine go_aload_n hC dX1_allYards_18 rfl 1 rfl ?_
      refine go_aload_n hC dX1_allYards_19 rfl 2 rfl ?_
      obtain ⟨r_7, hc, hf⟩ := bd_e1 hf
      refine go_callU hC (c_X1_yardsOf_X9 a n o x4 h r_7 ho ha hc) gX1_allYards_X1_yardsOf_u30X9 rfl ⟨rfl, rfl⟩ rfl 3 (by decide +kernel) ⟨Nat.le_of_ble_eq_true rfl, Nat.le_of_ble_eq_true rfl⟩ ho rfl rfl (st := [.int x3]) (st1 := [.int r_7, .int x3]) rfl rfl (Nat.le_of_ble_eq_true rfl) ⟨Nat.zero_le _, Nat.zero_le _⟩ dX1_allYards_20 ?_
      refine go_iadd hC dX1_allYards_23 ?_
      obtain ⟨x3_8, ex3_8, hf⟩ := lt_e hf
      refine go_topi ex3_8 ?_
      refine go_istore_n hC dX1_allYards_24 rfl (Nat.le_of_ble_eq_true rfl) rfl ?_
      obtain ⟨x4_9, ex4_9, hf⟩ := lt_e hf
      refine go_iinc hC dX1_allYards_25 4 rfl k1_1 ex4_9 (Nat.le_of_ble_eq_true rfl) rfl ?_
      refine go_goto hC dX1_allYards_28 (tgt := 5) (by decide) ?_
      obtain rfl := so_1 hf
      refine go_sub [2, 3, 4, 1, 0] rfl ?_
      exact ih x3_8 x4_9 _ (lp_c hy) ho ha hk
set_option maxRecDepth 100000 in
set_option maxHeartbeats 4000000 in
theorem c_X1_allYards_X9 (a n o : Nat) (h : PH) (r : Int32) (ho : (l0_B ++ h.2.2.2)[o]? = some (.inr (9, [(0, 0), (0, 0), (2, a)]))) (ha : (l0_B ++ h.2.2.2)[a]? = some (.inl (0, n))) (hf : f_X1_allYards 9 a n o h = some r) : Con yX1_allYards wsX1_allYards (rm_d 2) l0_B [.ref o, .ref 10, .ref 17] h (some (.int r)) h := by

  refine con_i (ty := .int) (cc := cX1_allYards) (nL := 5) (by decide) rfl (Nat.le_of_ble_eq_true rfl) ?_
  intro C hC hret
  change Go l0_B C 0 0 0 [(0, .ref o), (1, .ref 10), (2, .ref 17)] [] h
  unfold f_X1_allYards at hf
  refine go_iconst hC dX1_allYards_0 k1_0 ?_
  refine go_istore_n hC dX1_allYards_1 rfl (Nat.le_of_ble_eq_true rfl) rfl ?_
  refine go_iconst hC dX1_allYards_2 k1_0 ?_
  refine go_istore hC dX1_allYards_3 (Nat.le_of_ble_eq_true rfl) rfl ?_
  obtain ⟨s_11, hl, hf⟩ := bd_e1 hf
  refine go_sub [2, 3, 4, 1, 0] rfl ?_
  refine lw_X1_allYards_5_X9 hC a n o h _ 0 0 s_11 hl ho ha ?_
  refine go_iload_n hC dX1_allYards_31 rfl 0 rfl ?_
  obtain rfl := so_1 hf
  exact hret _ _ rfl dX1_allYards_32
def lb_X1_allDrilled_5 (ci a n o : Nat) (h : PH) (x3 : Int32) (x4 : Int32) : Option ((Int32 × Int32) ⊕ (Int32 × Int32)) :=
  bd_1 (vd_pieces ci a n o h) fun r_8 =>
  if r_8 ≤ x4 then (
  some (.inr (x3, x4)))
  else (
  bd_1 (f_X1_endOf ci a n o x4 h) fun r_9 =>
  bd_1 (f_X1_endOf ci a n o (x4 + 1) h) fun r_10 =>
  bd_1 (f_X3_drilledFrom r_9 r_10 h) fun r_11 =>
  lt_b (x3 + r_11) fun x3_12 =>
  lt_b (x4 + 1) fun x4_13 =>
  some (.inl (x3_12, x4_13)))
def f_X1_allDrilled (ci a n o : Nat) (h : PH) : Option (Int32) :=
  bd_1 (lp_f (fun s => lb_X1_allDrilled_5 ci a n o h s.1 s.2) fu_l (0, 0)) fun s_15 =>
  some s_15.1
set_option maxRecDepth 100000 in
set_option maxHeartbeats 4000000 in
theorem lw_X1_allDrilled_5_X1 {C : GC} (hC : Cx C cX1_allDrilled 5 wsX1_allDrilled RX1 (some .int) (rm_d 1)) (a n o : Nat) (h : PH) : ∀ (n9 : Nat) (x3 : Int32) (x4 : Int32) (y : Int32 × Int32), lp_f (fun s => lb_X1_allDrilled_5 1 a n o h s.1 s.2) n9 (x3, x4) = some y → (l0_B ++ h.2.2.2)[o]? = some (.inr (1, [(0, 0), (0, 0), (2, a)])) → (l0_B ++ h.2.2.2)[a]? = some (.inl (0, n)) → ∀ (hk : Go l0_B C 0 0 45 [(3, .int y.1)] [] h), Go l0_B C 0 0 5 [(0, .ref o), (1, .ref 10), (2, .ref 17), (3, .int x3), (4, .int x4)] [] h := by

  intro n9
  induction n9 with
  | zero =>
    intro x3 x4 y hlp
    cases hlp
  | succ n9 ih =>
    intro x3 x4 y hlp ho ha hk
    obtain ⟨k9, z, hk9, hf, hy⟩ := lp_e hlp
    cases hk9
    replace hf : lb_X1_allDrilled_5 1 a n o h x3 x4 = some z := hf
    unfold lb_X1_allDrilled_5 at hf
    refine go_iload hC dX1_allDrilled_5 4 rfl ?_
    refine go_aload_n hC dX1_allDrilled_7 rfl 0 rfl ?_
    obtain ⟨r_8, hc, hf⟩ := bd_e1 hf
    refine go_callV hC (c_X1_pieces_X1 a n o h r_8 ho ha hc) gX1_allDrilled_X1_pieces rfl ⟨rfl, rfl⟩ 0 e_X1_pieces ⟨Nat.le_of_ble_eq_true rfl, Nat.le_of_ble_eq_true rfl⟩ ho rfl rfl (st := [.int x4]) (st1 := [.int r_8, .int x4]) rfl rfl (Nat.le_of_ble_eq_true rfl) ⟨Nat.zero_le _, Nat.zero_le _⟩ dX1_allDrilled_8 ?_
    refine go_icmp_ge hC dX1_allDrilled_11 (tgt := 45) (by decide) (fun c_14 => ?_) (fun c_14 => ?_)
    · replace hf := if_t c_14 hf
      obtain rfl := so_1 hf
      obtain rfl := lp_x hy
      refine go_sub [3] rfl ?_
      exact hk
    · replace hf := if_f c_14 hf
      refine go_iload_n hC dX1_allDrilled_14 rfl 3 rfl ?_
      refine go_aload_n hC dX1_allDrilled_15 rfl 1 rfl ?_
      refine go_aload_n hC dX1_allDrilled_16 rfl 0 rfl ?_
      refine go_iload hC dX1_allDrilled_17 4 rfl ?_
      refine go_aload_n hC dX1_allDrilled_19 rfl 1 rfl ?_
      refine go_aload_n hC dX1_allDrilled_20 rfl 2 rfl ?_
      obtain ⟨r_9, hc, hf⟩ := bd_e1 hf
      refine go_callV hC (c_X1_endOf_X1 a n o x4 h r_9 ho ha hc) gX1_allDrilled_X1_endOf rfl ⟨rfl, rfl⟩ 3 e_X1_endOf ⟨Nat.le_of_ble_eq_true rfl, Nat.le_of_ble_eq_true rfl⟩ ho rfl rfl (st := [.ref 10, .int x3]) (st1 := [.int r_9, .ref 10, .int x3]) rfl rfl (Nat.le_of_ble_eq_true rfl) ⟨Nat.zero_le _, Nat.zero_le _⟩ dX1_allDrilled_21 ?_
      refine go_aload_n hC dX1_allDrilled_24 rfl 0 rfl ?_
      refine go_iload hC dX1_allDrilled_25 4 rfl ?_
      refine go_iconst hC dX1_allDrilled_27 k1_1 ?_
      refine go_iadd hC dX1_allDrilled_28 ?_
      refine go_aload_n hC dX1_allDrilled_29 rfl 1 rfl ?_
      refine go_aload_n hC dX1_allDrilled_30 rfl 2 rfl ?_
      obtain ⟨r_10, hc, hf⟩ := bd_e1 hf
      refine go_callV hC (c_X1_endOf_X1 a n o (x4 + 1) h r_10 ho ha hc) gX1_allDrilled_X1_endOf rfl ⟨rfl, rfl⟩ 3 e_X1_endOf ⟨Nat.le_of_ble_eq_true rfl, Nat.le_of_ble_eq_true rfl⟩ ho rfl rfl (st := [.int r_9, .ref 10, .int x3]) (st1 := [.int r_10, .int r_9, .ref 10, .int x3]) rfl rfl (Nat.le_of_ble_eq_true rfl) ⟨Nat.zero_le _, Nat.zero_le _⟩ dX1_allDrilled_31 ?_
      obtain ⟨r_11, hc, hf⟩ := bd_e1 hf
      refine go_callV hC (c_X3_drilledFrom r_9 r_10 h r_11 hc) gX1_allDrilled_X3_drilledFrom rfl ⟨rfl, rfl⟩ 2 e_X3_drilledFrom ⟨Nat.le_of_ble_eq_true rfl, Nat.le_of_ble_eq_true rfl⟩ (b_10 _) rfl rfl (st := [.int x3]) (st1 := [.int r_11, .int x3]) rfl rfl (Nat.le_of_ble_eq_true rfl) ⟨Nat.zero_le _, Nat.zero_le _⟩ dX1_allDrilled_34 ?_
      refine go_iadd hC dX1_allDrilled_37 ?_
      obtain ⟨x3_12, ex3_12, hf⟩ := lt_e hf
      refine go_topi ex3_12 ?_
      refine go_istore_n hC dX1_allDrilled_38 rfl (Nat.le_of_ble_eq_true rfl) rfl ?_
      obtain ⟨x4_13, ex4_13, hf⟩ := lt_e hf
      refine go_iinc hC dX1_allDrilled_39 4 rfl k1_1 ex4_13 (Nat.le_of_ble_eq_true rfl) rfl ?_
      refine go_goto hC dX1_allDrilled_42 (tgt := 5) (by decide) ?_
      obtain rfl := so_1 hf
      refine go_sub [2, 3, 4, 1, 0] rfl ?_
      exact ih x3_12 x4_13 _ (lp_c hy) ho ha hk
theorem e_X1_allDrilled : yX1_allDrilled.cls = RX1 ∧ yX1_allDrilled.cls ≠ "java/lang/invoke/MethodHandle" ∧ yX1_allDrilled.cls ≠ "java/lang/invoke/VarHandle" ∧ (parseMethodDescriptor yX1_allDrilled.desc).map (fun d => d.parameters.length) = some 2 := by decide +kernel
set_option maxRecDepth 100000 in
set_option maxHeartbeats 4000000 in
theorem c_X1_allDrilled_X1 (a n o : Nat) (h : PH) (r : Int32) (ho : (l0_B ++ h.2.2.2)[o]? = some (.inr (1, [(0, 0), (0, 0), (2, a)]))) (ha : (l0_B ++ h.2.2.2)[a]? = some (.inl (0, n))) (hf : f_X1_allDrilled 1 a n o h = some r) : Con yX1_allDrilled wsX1_allDrilled (rm_d 1) l0_B [.ref o, .ref 10, .ref 17] h (some (.int r)) h := by

  refine con_i (ty := .int) (cc := cX1_allDrilled) (nL := 5) (by decide) rfl (Nat.le_of_ble_eq_true rfl) ?_
  intro C hC hret
  change Go l0_B C 0 0 0 [(0, .ref o), (1, .ref 10), (2, .ref 17)] [] h
  unfold f_X1_allDrilled at hf
  refine go_iconst hC dX1_allDrilled_0 k1_0 ?_
  refine go_istore_n hC dX1_allDrilled_1 rfl (Nat.le_of_ble_eq_true rfl) rfl ?_
  refine go_iconst hC dX1_allDrilled_2 k1_0 ?_
  refine go_istore hC dX1_allDrilled_3 (Nat.le_of_ble_eq_true rfl) rfl ?_
  obtain ⟨s_15, hl, hf⟩ := bd_e1 hf
  refine go_sub [2, 3, 4, 1, 0] rfl ?_
  refine lw_X1_allDrilled_5_X1 hC a n o h _ 0 0 s_15 hl ho ha ?_
  refine go_iload_n hC dX1_allDrilled_45 rfl 0 rfl ?_
  obtain rfl := so_1 hf
  exact hret _ _ rfl dX1_allDrilled_46
set_option maxRecDepth 100000 in
set_option maxHeartbeats 4000000 in
theorem lw_X1_allDrilled_5_X7 {C : GC} (hC : Cx C cX1_allDrilled 5 wsX1_allDrilled RX1 (some .int) (rm_d 1)) (a n o : Nat) (h : PH) : ∀ (n9 : Nat) (x3 : Int32) (x4 : Int32) (y : Int32 × Int32), lp_f (fun s => lb_X1_allDrilled_5 7 a n o h s.1 s.2) n9 (x3, x4) = some y → (l0_B ++ h.2.2.2)[o]? = some (.inr (7, [(0, 0), (0, 0), (2, a)])) → (l0_B ++ h.2.2.2)[a]? = some (.inl (0, n)) → ∀ (hk : Go l0_B C 0 0 45 [(3, .int y.1)] [] h), Go l0_B C 0 0 5 [(0, .ref o), (1, .ref 10), (2, .ref 17), (3, .int x3), (4, .int x4)] [] h := by

  intro n9
  induction n9 with
  | zero =>
    intro x3 x4 y hlp
    cases hlp
  | succ n9 ih =>
    intro x3 x4 y hlp ho ha hk
    obtain ⟨k9, z, hk9, hf, hy⟩ := lp_e hlp
    cases hk9
    replace hf : lb_X1_allDrilled_5 7 a n o h x3 x4 = some z := hf
    unfold lb_X1_allDrilled_5 at hf
    refine go_iload hC dX1_allDrilled_5 4 rfl ?_
    refine go_aload_n hC dX1_allDrilled_7 rfl 0 rfl ?_
    obtain ⟨r_8, hc, hf⟩ := bd_e1 hf
    refine go_callO hC (c_X7_pieces_X7 a n o h r_8 ho ha hc) gX1_allDrilled_X7_pieces_u26X7 rfl ⟨rfl, rfl⟩ (List.mem_cons_of_mem _ (List.mem_append_left _ (List.mem_append_left _ (List.mem_append_left _ (List.mem_append_left _ (List.mem_append_left _ (List.mem_append_left _ (List.mem_of_getElem? (i := 4) rfl)))))))) 0 (by decide +kernel) ⟨Nat.le_of_ble_eq_true rfl, Nat.le_of_ble_eq_true rfl⟩ ho rfl rfl (st := [.int x4]) (st1 := [.int r_8, .int x4]) rfl rfl (Nat.le_of_ble_eq_true rfl) ⟨Nat.zero_le _, Nat.zero_le _⟩ dX1_allDrilled_8 ?_
    refine go_icmp_ge hC dX1_allDrilled_11 (tgt := 45) (by decide) (fun c_14 => ?_) (fun c_14 => ?_)
    · replace hf := if_t c_14 hf
      obtain rfl := so_1 hf
      obtain rfl := lp_x hy
      refine go_sub [3] rfl ?_
      exact hk
    · replace hf := if_f c_14 hf
      refine go_iload_n hC dX1_allDrilled_14 rfl 3 rfl ?_
      refine go_aload_n hC dX1_allDrilled_15 rfl 1 rfl ?_
      refine go_aload_n hC dX1_allDrilled_16 rfl 0 rfl ?_
      refine go_iload hC dX1_allDrilled_17 4 rfl ?_
      refine go_aload_n hC dX1_allDrilled_19 rfl 1 rfl ?_
      refine go_aload_n hC dX1_allDrilled_20 rfl 2 rfl ?_
      obtain ⟨r_9, hc, hf⟩ := bd_e1 hf
      refine go_callU hC (c_X1_endOf_X7 a n o x4 h r_9 ho ha hc) gX1_allDrilled_X1_endOf_u35X7 rfl ⟨rfl, rfl⟩ rfl 3 (by decide +kernel) ⟨Nat.le_of_ble_eq_true rfl, Nat.le_of_ble_eq_true rfl⟩ ho rfl rfl (st := [.ref 10, .int x3]) (st1 := [.int r_9, .ref 10, .int x3]) rfl rfl (Nat.le_of_ble_eq_true rfl) ⟨Nat.zero_le _, Nat.zero_le _⟩ dX1_allDrilled_21 ?_
      refine go_aload_n hC dX1_allDrilled_24 rfl 0 rfl ?_
      refine go_iload hC dX1_allDrilled_25 4 rfl ?_
      refine go_iconst hC dX1_allDrilled_27 k1_1 ?_
      refine go_iadd hC dX1_allDrilled_28 ?_
      refine go_aload_n hC dX1_allDrilled_29 rfl 1 rfl ?_
      refine go_aload_n hC dX1_allDrilled_30 rfl 2 rfl ?_
      obtain ⟨r_10, hc, hf⟩ := bd_e1 hf
      refine go_callU hC (c_X1_endOf_X7 a n o (x4 + 1) h r_10 ho ha hc) gX1_allDrilled_X1_endOf_u35X7 rfl ⟨rfl, rfl⟩ rfl 3 (by decide +kernel) ⟨Nat.le_of_ble_eq_true rfl, Nat.le_of_ble_eq_true rfl⟩ ho rfl rfl (st := [.int r_9, .ref 10, .int x3]) (st1 := [.int r_10, .int r_9, .ref 10, .int x3]) rfl rfl (Nat.le_of_ble_eq_true rfl) ⟨Nat.zero_le _, Nat.zero_le _⟩ dX1_allDrilled_31 ?_
      obtain ⟨r_11, hc, hf⟩ := bd_e1 hf
      refine go_callV hC (c_X3_drilledFrom r_9 r_10 h r_11 hc) gX1_allDrilled_X3_drilledFrom rfl ⟨rfl, rfl⟩ 2 e_X3_drilledFrom ⟨Nat.le_of_ble_eq_true rfl, Nat.le_of_ble_eq_true rfl⟩ (b_10 _) rfl rfl (st := [.int x3]) (st1 := [.int r_11, .int x3]) rfl rfl (Nat.le_of_ble_eq_true rfl) ⟨Nat.zero_le _, Nat.zero_le _⟩ dX1_allDrilled_34 ?_
      refine go_iadd hC dX1_allDrilled_37 ?_
      obtain ⟨x3_12, ex3_12, hf⟩ := lt_e hf
      refine go_topi ex3_12 ?_
      refine go_istore_n hC dX1_allDrilled_38 rfl (Nat.le_of_ble_eq_true rfl) rfl ?_
      obtain ⟨x4_13, ex4_13, hf⟩ := lt_e hf
      refine go_iinc hC dX1_allDrilled_39 4 rfl k1_1 ex4_13 (Nat.le_of_ble_eq_true rfl) rfl ?_
      refine go_goto hC dX1_allDrilled_42 (tgt := 5) (by decide) ?_
      obtain rfl := so_1 hf
      refine go_sub [2, 3, 4, 1, 0] rfl ?_
      exact ih x3_12 x4_13 _ (lp_c hy) ho ha hk
set_option maxRecDepth 100000 in
set_option maxHeartbeats 4000000 in
theorem c_X1_allDrilled_X7 (a n o : Nat) (h : PH) (r : Int32) (ho : (l0_B ++ h.2.2.2)[o]? = some (.inr (7, [(0, 0), (0, 0), (2, a)]))) (ha : (l0_B ++ h.2.2.2)[a]? = some (.inl (0, n))) (hf : f_X1_allDrilled 7 a n o h = some r) : Con yX1_allDrilled wsX1_allDrilled (rm_d 1) l0_B [.ref o, .ref 10, .ref 17] h (some (.int r)) h := by

  refine con_i (ty := .int) (cc := cX1_allDrilled) (nL := 5) (by decide) rfl (Nat.le_of_ble_eq_true rfl) ?_
  intro C hC hret
  change Go l0_B C 0 0 0 [(0, .ref o), (1, .ref 10), (2, .ref 17)] [] h
  unfold f_X1_allDrilled at hf
  refine go_iconst hC dX1_allDrilled_0 k1_0 ?_
  refine go_istore_n hC dX1_allDrilled_1 rfl (Nat.le_of_ble_eq_true rfl) rfl ?_
  refine go_iconst hC dX1_allDrilled_2 k1_0 ?_
  refine go_istore hC dX1_allDrilled_3 (Nat.le_of_ble_eq_true rfl) rfl ?_
  obtain ⟨s_15, hl, hf⟩ := bd_e1 hf
  refine go_sub [2, 3, 4, 1, 0] rfl ?_
  refine lw_X1_allDrilled_5_X7 hC a n o h _ 0 0 s_15 hl ho ha ?_
  refine go_iload_n hC dX1_allDrilled_45 rfl 0 rfl ?_
  obtain rfl := so_1 hf
  exact hret _ _ rfl dX1_allDrilled_46
set_option maxRecDepth 100000 in
set_option maxHeartbeats 4000000 in
theorem lw_X1_allDrilled_5_X9 {C : GC} (hC : Cx C cX1_allDrilled 5 wsX1_allDrilled RX1 (some .int) (rm_d 1)) (a n o : Nat) (h : PH) : ∀ (n9 : Nat) (x3 : Int32) (x4 : Int32) (y : Int32 × Int32), lp_f (fun s => lb_X1_allDrilled_5 9 a n o h s.1 s.2) n9 (x3, x4) = some y → (l0_B ++ h.2.2.2)[o]? = some (.inr (9, [(0, 0), (0, 0), (2, a)])) → (l0_B ++ h.2.2.2)[a]? = some (.inl (0, n)) → ∀ (hk : Go l0_B C 0 0 45 [(3, .int y.1)] [] h), Go l0_B C 0 0 5 [(0, .ref o), (1, .ref 10), (2, .ref 17), (3, .int x3), (4, .int x4)] [] h := by

  intro n9
  induction n9 with
  | zero =>
    intro x3 x4 y hlp
    cases hlp
  | succ n9 ih =>
    intro x3 x4 y hlp ho ha hk
    obtain ⟨k9, z, hk9, hf, hy⟩ := lp_e hlp
    cases hk9
    replace hf : lb_X1_allDrilled_5 9 a n o h x3 x4 = some z := hf
    unfold lb_X1_allDrilled_5 at hf
    refine go_iload hC dX1_allDrilled_5 4 rfl ?_
    refine go_aload_n hC dX1_allDrilled_7 rfl 0 rfl ?_
    obtain ⟨r_8, hc, hf⟩ := bd_e1 hf
    refine go_callO hC (c_X7_pieces_X9 a n o h r_8 ho ha hc) gX1_allDrilled_X7_pieces_u26X9 rfl ⟨rfl, rfl⟩ (List.mem_cons_of_mem _ (List.mem_append_left _ (List.mem_append_left _ (List.mem_append_left _ (List.mem_append_left _ (List.mem_append_left _ (List.mem_append_left _ (List.mem_of_getElem? (i := 4) rfl)))))))) 0 (by decide +kernel) ⟨Nat.le_of_ble_eq_true rfl, Nat.le_of_ble_eq_true rfl⟩ ho rfl rfl (st := [.int x4]) (st1 := [.int r_8, .int x4]) rfl rfl (Nat.le_of_ble_eq_true rfl) ⟨Nat.zero_le _, Nat.zero_le _⟩ dX1_allDrilled_8 ?_
    refine go_icmp_ge hC dX1_allDrilled_11 (tgt := 45) (by decide) (fun c_14 => ?_) (fun c_14 => ?_)
    · replace hf := if_t c_14 hf
      obtain rfl := so_1 hf
      obtain rfl := lp_x hy
      refine go_sub [3] rfl ?_
      exact hk
    · replace hf := if_f c_14 hf
      refine go_iload_n hC dX1_allDrilled_14 rfl 3 rfl ?_
      refine go_aload_n hC dX1_allDrilled_15 rfl 1 rfl ?_
      refine go_aload_n hC dX1_allDrilled_16 rfl 0 rfl ?_
      refine go_iload hC dX1_allDrilled_17 4 rfl ?_
      refine go_aload_n hC dX1_allDrilled_19 rfl 1 rfl ?_
      refine go_aload_n hC dX1_allDrilled_20 rfl 2 rfl ?_
      obtain ⟨r_9, hc, hf⟩ := bd_e1 hf
      refine go_callU hC (c_X1_endOf_X9 a n o x4 h r_9 ho ha hc) gX1_allDrilled_X1_endOf_u35X9 rfl ⟨rfl, rfl⟩ rfl 3 (by decide +kernel) ⟨Nat.le_of_ble_eq_true rfl, Nat.le_of_ble_eq_true rfl⟩ ho rfl rfl (st := [.ref 10, .int x3]) (st1 := [.int r_9, .ref 10, .int x3]) rfl rfl (Nat.le_of_ble_eq_true rfl) ⟨Nat.zero_le _, Nat.zero_le _⟩ dX1_allDrilled_21 ?_
      refine go_aload_n hC dX1_allDrilled_24 rfl 0 rfl ?_
      refine go_iload hC dX1_allDrilled_25 4 rfl ?_
      refine go_iconst hC dX1_allDrilled_27 k1_1 ?_
      refine go_iadd hC dX1_allDrilled_28 ?_
      refine go_aload_n hC dX1_allDrilled_29 rfl 1 rfl ?_
      refine go_aload_n hC dX1_allDrilled_30 rfl 2 rfl ?_
      obtain ⟨r_10, hc, hf⟩ := bd_e1 hf
      refine go_callU hC (c_X1_endOf_X9 a n o (x4 + 1) h r_10 ho ha hc) gX1_allDrilled_X1_endOf_u35X9 rfl ⟨rfl, rfl⟩ rfl 3 (by decide +kernel) ⟨Nat.le_of_ble_eq_true rfl, Nat.le_of_ble_eq_true rfl⟩ ho rfl rfl (st := [.int r_9, .ref 10, .int x3]) (st1 := [.int r_10, .int r_9, .ref 10, .int x3]) rfl rfl (Nat.le_of_ble_eq_true rfl) ⟨Nat.zero_le _, Nat.zero_le _⟩ dX1_allDrilled_31 ?_
      obtain ⟨r_11, hc, hf⟩ := bd_e1 hf
      refine go_callV hC (c_X3_drilledFrom r_9 r_10 h r_11 hc) gX1_allDrilled_X3_drilledFrom rfl ⟨rfl, rfl⟩ 2 e_X3_drilledFrom ⟨Nat.le_of_ble_eq_true rfl, Nat.le_of_ble_eq_true rfl⟩ (b_10 _) rfl rfl (st := [.int x3]) (st1 := [.int r_11, .int x3]) rfl rfl (Nat.le_of_ble_eq_true rfl) ⟨Nat.zero_le _, Nat.zero_le _⟩ dX1_allDrilled_34 ?_
      refine go_iadd hC dX1_allDrilled_37 ?_
      obtain ⟨x3_12, ex3_12, hf⟩ := lt_e hf
      refine go_topi ex3_12 ?_
      refine go_istore_n hC dX1_allDrilled_38 rfl (Nat.le_of_ble_eq_true rfl) rfl ?_
      obtain ⟨x4_13, ex4_13, hf⟩ := lt_e hf
      refine go_iinc hC dX1_allDrilled_39 4 rfl k1_1 ex4_13 (Nat.le_of_ble_eq_true rfl) rfl ?_
      refine go_goto hC dX1_allDrilled_42 (tgt := 5) (by decide) ?_
      obtain rfl := so_1 hf
      refine go_sub [2, 3, 4, 1, 0] rfl ?_
      exact ih x3_12 x4_13 _ (lp_c hy) ho ha hk
set_option maxRecDepth 100000 in
set_option maxHeartbeats 4000000 in
theorem c_X1_allDrilled_X9 (a n o : Nat) (h : PH) (r : Int32) (ho : (l0_B ++ h.2.2.2)[o]? = some (.inr (9, [(0, 0), (0, 0), (2, a)]))) (ha : (l0_B ++ h.2.2.2)[a]? = some (.inl (0, n))) (hf : f_X1_allDrilled 9 a n o h = some r) : Con yX1_allDrilled wsX1_allDrilled (rm_d 1) l0_B [.ref o, .ref 10, .ref 17] h (some (.int r)) h := by

  refine con_i (ty := .int) (cc := cX1_allDrilled) (nL := 5) (by decide) rfl (Nat.le_of_ble_eq_true rfl) ?_
  intro C hC hret
  change Go l0_B C 0 0 0 [(0, .ref o), (1, .ref 10), (2, .ref 17)] [] h
  unfold f_X1_allDrilled at hf
  refine go_iconst hC dX1_allDrilled_0 k1_0 ?_
  refine go_istore_n hC dX1_allDrilled_1 rfl (Nat.le_of_ble_eq_true rfl) rfl ?_
  refine go_iconst hC dX1_allDrilled_2 k1_0 ?_
  refine go_istore hC dX1_allDrilled_3 (Nat.le_of_ble_eq_true rfl) rfl ?_
  obtain ⟨s_15, hl, hf⟩ := bd_e1 hf
  refine go_sub [2, 3, 4, 1, 0] rfl ?_
  refine lw_X1_allDrilled_5_X9 hC a n o h _ 0 0 s_15 hl ho ha ?_
  refine go_iload_n hC dX1_allDrilled_45 rfl 0 rfl ?_
  obtain rfl := so_1 hf
  exact hret _ _ rfl dX1_allDrilled_46
def lb_X7_carriedFirst_35 (ci a n o : Nat) (h : PH) (x3 : Int64) (x5 : Int32) (x6 : Int32) : Option ((Int64 × Int32 × Int32) ⊕ (Int64 × Int32 × Int32)) :=
  if x6 < 0 then (
  some (.inr (x3, x5, x6)))
  else (
  bd_1 (f_X1_yardsOf ci a n o (x6 + 1) h) fun r_12 =>
  lt_b (x5 + r_12) fun x5_13 =>
  gz_i (h.1 o 2) (
  ga_i x6 n (
  ga_i (h.1 a x6.toNatClampNeg) 8 (
  lt_b (x3 + (((h.1 19 (h.1 a x6.toNatClampNeg).toNatClampNeg) * x5_13).toInt64)) fun x3_17 =>
  lt_b (x6 + (-1)) fun x6_18 =>
  some (.inl (x3_17, x5_13, x6_18))))))
def f_X7_carriedFirst (ci a n o : Nat) (h : PH) : Option (Int64) :=
  bd_1 (f_X1_allYards ci a n o h) fun r_1 =>
  if r_1 = 0 then (
  gz_i (h.1 o 2) (
  bd_1 (f_X1_loadsAhead ci a n o (Int32.ofNat n) h) fun r_22 =>
  some r_22.toInt64))
  else (
  gz_i (h.1 o 2) (
  lt_b ((Int32.ofNat n) - 1) fun x6_3 =>
  bd_1 (lp_f (fun s => lb_X7_carriedFirst_35 ci a n o h s.1 s.2.1 s.2.2) fu_l (0, 0, x6_3)) fun s_20 =>
  some s_20.1))
set_option maxRecDepth 100000 in
set_option maxHeartbeats 4000000 in
theorem lw_X7_carriedFirst_35_X7 {C : GC} (hC : Cx C cX7_carriedFirst 7 wsX7_carriedFirst RX7 (some .long) (rm_d 3)) (a n o : Nat) (h : PH) : ∀ (n9 : Nat) (x3 : Int64) (x5 : Int32) (x6 : Int32) (y : Int64 × Int32 × Int32), lp_f (fun s => lb_X7_carriedFirst_35 7 a n o h s.1 s.2.1 s.2.2) n9 (x3, x5, x6) = some y → (l0_B ++ h.2.2.2)[o]? = some (.inr (7, [(0, 0), (0, 0), (2, a)])) → (l0_B ++ h.2.2.2)[a]? = some (.inl (0, n)) → ∀ (hk : Go l0_B C 0 0 80 [(3, .long y.1)] [] h), Go l0_B C 0 0 35 [(0, .ref o), (1, .ref 10), (2, .ref 17), (3, .long x3), (5, .int x5), (6, .int x6)] [] h := by
  have hn6 : ∀ w ∈ wsX60, w ∈ wsX7_carriedFirst := (fun _ hw => (List.mem_cons_of_mem _ (List.mem_append_left _ (List.mem_append_right _ hw))))
  have hn7 : ∀ w ∈ wsX70, w ∈ wsX7_carriedFirst := (fun _ hw => (List.mem_cons_of_mem _ (List.mem_append_left _ (List.mem_append_left _ (List.mem_append_left _ (List.mem_append_right _ hw))))))
  intro n9
  induction n9 with
  | zero =>
    intro x3 x5 x6 y hlp
    cases hlp
  | succ n9 ih =>
    intro x3 x5 x6 y hlp ho ha hk
    obtain ⟨k9, z, hk9, hf, hy⟩ := lp_e hlp
    cases hk9
    replace hf : lb_X7_carriedFirst_35 7 a n o h x3 x5 x6 = some z := hf
    unfold lb_X7_carriedFirst_35 at hf
    refine go_iload hC dX7_carriedFirst_35 5 rfl ?_
    refine go_if_lt hC dX7_carriedFirst_37 (tgt := 80) (by decide) (fun c_19 => ?_) (fun c_19 => ?_)
    · replace hf := if_t c_19 hf
      obtain rfl := so_1 hf
      obtain rfl := lp_x hy
      refine go_sub [3] rfl ?_
      exact hk
    · replace hf := if_f c_19 hf
      refine go_iload hC dX7_carriedFirst_40 4 rfl ?_
      refine go_aload_n hC dX7_carriedFirst_42 rfl 0 rfl ?_
      refine go_iload hC dX7_carriedFirst_43 5 rfl ?_
      refine go_iconst hC dX7_carriedFirst_45 k1_1 ?_
      refine go_iadd hC dX7_carriedFirst_46 ?_
      refine go_aload_n hC dX7_carriedFirst_47 rfl 1 rfl ?_
      refine go_aload_n hC dX7_carriedFirst_48 rfl 2 rfl ?_
      obtain ⟨r_12, hc, hf⟩ := bd_e1 hf
      refine go_callU hC (c_X1_yardsOf_X7 a n o (x6 + 1) h r_12 ho ha hc) gX7_carriedFirst_X1_yardsOf_u21X7 rfl ⟨rfl, rfl⟩ rfl 3 (by decide +kernel) ⟨Nat.le_of_ble_eq_true rfl, Nat.le_of_ble_eq_true rfl⟩ ho rfl rfl (st := [.int x5]) (st1 := [.int r_12, .int x5]) rfl rfl (Nat.le_of_ble_eq_true rfl) ⟨Nat.zero_le _, Nat.zero_le _⟩ dX7_carriedFirst_49 ?_
      refine go_iadd hC dX7_carriedFirst_52 ?_
      obtain ⟨x5_13, ex5_13, hf⟩ := lt_e hf
      refine go_topi ex5_13 ?_
      refine go_istore hC dX7_carriedFirst_53 (Nat.le_of_ble_eq_true rfl) rfl ?_
      refine go_lload_n hC dX7_carriedFirst_55 rfl 4 rfl ?_
      refine go_aload_n hC dX7_carriedFirst_56 rfl 3 rfl ?_
      refine go_getr hC (j := 2) (idx := 25) (nm := "loads") (ds := "[I") (b_17 _) rfl rfl hn6 (Nat.le_of_ble_eq_true rfl) rfl rfl (List.mem_cons_of_mem _ (List.mem_append_left _ (List.mem_append_left _ (List.mem_append_left _ (List.mem_append_left _ (List.mem_append_left _ (List.mem_append_left _ (List.mem_of_getElem? (i := 2) rfl)))))))) (Or.inl rfl) dX7_carriedFirst_57 ?_
      refine go_aload_n hC dX7_carriedFirst_60 rfl 1 rfl ?_
      obtain ⟨g_14, hf⟩ := gz_e hf
      refine go_geto hC (j := 2) (idx := 7) (nm := "stops") (ds := "[I") ho rfl rfl hn7 (Nat.le_of_ble_eq_true rfl) rfl rfl (List.mem_cons_of_mem _ (List.mem_append_left _ (List.mem_append_left _ (List.mem_append_left _ (List.mem_append_left _ (List.mem_append_left _ (List.mem_append_left _ (List.mem_of_getElem? (i := 0) rfl)))))))) (Or.inr (List.mem_cons_of_mem _ (List.mem_append_left _ (List.mem_append_left _ (List.mem_append_left _ (List.mem_append_left _ (List.mem_append_left _ (List.mem_append_left _ (List.mem_of_getElem? (i := 1) rfl))))))))) g_14 dX7_carriedFirst_61 ?_
      refine go_iload hC dX7_carriedFirst_64 5 rfl ?_
      obtain ⟨g_15, hf⟩ := ga_e hf
      refine go_iald hC ha g_15 dX7_carriedFirst_66 ?_
      obtain ⟨g_16, hf⟩ := ga_e hf
      refine go_iald hC (b_19 _) g_16 dX7_carriedFirst_67 ?_
      refine go_iload hC dX7_carriedFirst_68 0 rfl ?_
      refine go_imul hC dX7_carriedFirst_70 ?_
      refine go_i2l hC dX7_carriedFirst_71 ?_
      refine go_ladd hC dX7_carriedFirst_72 ?_
      obtain ⟨x3_17, ex3_17, hf⟩ := lt_e hf
      refine go_topl ex3_17 ?_
      refine go_lstore_n hC dX7_carriedFirst_73 rfl (Nat.le_of_ble_eq_true rfl) rfl ?_
      obtain ⟨x6_18, ex6_18, hf⟩ := lt_e hf
      refine go_iinc hC dX7_carriedFirst_74 5 rfl k1_m1 ex6_18 (Nat.le_of_ble_eq_true rfl) rfl ?_
      refine go_goto hC dX7_carriedFirst_77 (tgt := 35) (by decide) ?_
      obtain rfl := so_1 hf
      refine go_sub [3, 4, 5, 1, 2, 0] rfl ?_
      exact ih x3_17 x5_13 x6_18 _ (lp_c hy) ho ha hk
theorem e_X7_carriedFirst : yX7_carriedFirst.cls = RX7 ∧ yX7_carriedFirst.cls ≠ "java/lang/invoke/MethodHandle" ∧ yX7_carriedFirst.cls ≠ "java/lang/invoke/VarHandle" ∧ (parseMethodDescriptor yX7_carriedFirst.desc).map (fun d => d.parameters.length) = some 2 := by decide +kernel
set_option maxRecDepth 100000 in
set_option maxHeartbeats 4000000 in
theorem c_X7_carriedFirst_X7 (a n o : Nat) (h : PH) (r : Int64) (ho : (l0_B ++ h.2.2.2)[o]? = some (.inr (7, [(0, 0), (0, 0), (2, a)]))) (ha : (l0_B ++ h.2.2.2)[a]? = some (.inl (0, n))) (hf : f_X7_carriedFirst 7 a n o h = some r) : Con yX7_carriedFirst wsX7_carriedFirst (rm_d 3) l0_B [.ref o, .ref 10, .ref 17] h (some (.long r)) h := by
  have hn6 : ∀ w ∈ wsX60, w ∈ wsX7_carriedFirst := (fun _ hw => (List.mem_cons_of_mem _ (List.mem_append_left _ (List.mem_append_right _ hw))))
  have hn7 : ∀ w ∈ wsX70, w ∈ wsX7_carriedFirst := (fun _ hw => (List.mem_cons_of_mem _ (List.mem_append_left _ (List.mem_append_left _ (List.mem_append_left _ (List.mem_append_right _ hw))))))
  refine con_l (cc := cX7_carriedFirst) (nL := 7) (by decide) rfl (Nat.le_of_ble_eq_true rfl) ?_
  intro C hC hret
  change Go l0_B C 0 0 0 [(0, .ref o), (1, .ref 10), (2, .ref 17)] [] h
  unfold f_X7_carriedFirst at hf
  refine go_aload_n hC dX7_carriedFirst_0 rfl 0 rfl ?_
  refine go_aload_n hC dX7_carriedFirst_1 rfl 1 rfl ?_
  refine go_aload_n hC dX7_carriedFirst_2 rfl 2 rfl ?_
  obtain ⟨r_1, hc, hf⟩ := bd_e1 hf
  refine go_callU hC (c_X1_allYards_X7 a n o h r_1 ho ha hc) gX7_carriedFirst_X1_allYards_u13X7 rfl ⟨rfl, rfl⟩ rfl 2 (by decide +kernel) ⟨Nat.le_of_ble_eq_true rfl, Nat.le_of_ble_eq_true rfl⟩ ho rfl rfl (st := []) (st1 := [.int r_1]) rfl rfl (Nat.le_of_ble_eq_true rfl) ⟨Nat.zero_le _, Nat.zero_le _⟩ dX7_carriedFirst_3 ?_
  refine go_if_ne hC dX7_carriedFirst_6 (tgt := 21) (by decide) (fun c_23 => ?_) (fun c_23 => ?_)
  · replace hf := if_f c_23 hf
    refine go_lconst hC dX7_carriedFirst_21 (v := 0) rfl ?_
    refine go_lstore_n hC dX7_carriedFirst_22 rfl (Nat.le_of_ble_eq_true rfl) rfl ?_
    refine go_iconst hC dX7_carriedFirst_23 k1_0 ?_
    refine go_istore hC dX7_carriedFirst_24 (Nat.le_of_ble_eq_true rfl) rfl ?_
    refine go_aload_n hC dX7_carriedFirst_26 rfl 2 rfl ?_
    obtain ⟨g_2, hf⟩ := gz_e hf
    refine go_geto hC (j := 2) (idx := 7) (nm := "stops") (ds := "[I") ho rfl rfl hn7 (Nat.le_of_ble_eq_true rfl) rfl rfl (List.mem_cons_of_mem _ (List.mem_append_left _ (List.mem_append_left _ (List.mem_append_left _ (List.mem_append_left _ (List.mem_append_left _ (List.mem_append_left _ (List.mem_of_getElem? (i := 0) rfl)))))))) (Or.inr (List.mem_cons_of_mem _ (List.mem_append_left _ (List.mem_append_left _ (List.mem_append_left _ (List.mem_append_left _ (List.mem_append_left _ (List.mem_append_left _ (List.mem_of_getElem? (i := 1) rfl))))))))) g_2 dX7_carriedFirst_27 ?_
    refine go_alen hC ha (Nat.le_of_ble_eq_true rfl) rfl dX7_carriedFirst_30 ?_
    refine go_iconst hC dX7_carriedFirst_31 k1_1 ?_
    refine go_isub hC dX7_carriedFirst_32 ?_
    obtain ⟨x6_3, ex6_3, hf⟩ := lt_e hf
    refine go_topi ex6_3 ?_
    refine go_istore hC dX7_carriedFirst_33 (Nat.le_of_ble_eq_true rfl) rfl ?_
    obtain ⟨s_20, hl, hf⟩ := bd_e1 hf
    refine go_sub [3, 4, 5, 2, 1, 0] rfl ?_
    refine lw_X7_carriedFirst_35_X7 hC a n o h _ 0 0 x6_3 s_20 hl ho ha ?_
    refine go_lload_n hC dX7_carriedFirst_80 rfl 0 rfl ?_
    obtain rfl := so_1 hf
    exact hret _ _ dX7_carriedFirst_81
  · replace hf := if_t c_23 hf
    refine go_aload_n hC dX7_carriedFirst_9 rfl 0 rfl ?_
    refine go_aload_n hC dX7_carriedFirst_10 rfl 0 rfl ?_
    obtain ⟨g_21, hf⟩ := gz_e hf
    refine go_geto hC (j := 2) (idx := 7) (nm := "stops") (ds := "[I") ho rfl rfl hn7 (Nat.le_of_ble_eq_true rfl) rfl rfl (List.mem_cons_of_mem _ (List.mem_append_left _ (List.mem_append_left _ (List.mem_append_left _ (List.mem_append_left _ (List.mem_append_left _ (List.mem_append_left _ (List.mem_of_getElem? (i := 0) rfl)))))))) (Or.inr (List.mem_cons_of_mem _ (List.mem_append_left _ (List.mem_append_left _ (List.mem_append_left _ (List.mem_append_left _ (List.mem_append_left _ (List.mem_append_left _ (List.mem_of_getElem? (i := 1) rfl))))))))) g_21 dX7_carriedFirst_11 ?_
    refine go_alen hC ha (Nat.le_of_ble_eq_true rfl) rfl dX7_carriedFirst_14 ?_
    refine go_aload_n hC dX7_carriedFirst_15 rfl 2 rfl ?_
    obtain ⟨r_22, hc, hf⟩ := bd_e1 hf
    refine go_callU hC (c_X1_loadsAhead_X7 a n o (Int32.ofNat n) h r_22 ho ha hc) gX7_carriedFirst_X1_loadsAhead_u17X7 rfl ⟨rfl, rfl⟩ rfl 2 (by decide +kernel) ⟨Nat.le_of_ble_eq_true rfl, Nat.le_of_ble_eq_true rfl⟩ ho rfl rfl (st := []) (st1 := [.int r_22]) rfl rfl (Nat.le_of_ble_eq_true rfl) ⟨Nat.zero_le _, Nat.zero_le _⟩ dX7_carriedFirst_16 ?_
    refine go_i2l hC dX7_carriedFirst_19 ?_
    obtain rfl := so_1 hf
    exact hret _ _ dX7_carriedFirst_20
set_option maxRecDepth 100000 in
set_option maxHeartbeats 4000000 in
theorem lw_X7_carriedFirst_35_X9 {C : GC} (hC : Cx C cX7_carriedFirst 7 wsX7_carriedFirst RX7 (some .long) (rm_d 3)) (a n o : Nat) (h : PH) : ∀ (n9 : Nat) (x3 : Int64) (x5 : Int32) (x6 : Int32) (y : Int64 × Int32 × Int32), lp_f (fun s => lb_X7_carriedFirst_35 9 a n o h s.1 s.2.1 s.2.2) n9 (x3, x5, x6) = some y → (l0_B ++ h.2.2.2)[o]? = some (.inr (9, [(0, 0), (0, 0), (2, a)])) → (l0_B ++ h.2.2.2)[a]? = some (.inl (0, n)) → ∀ (hk : Go l0_B C 0 0 80 [(3, .long y.1)] [] h), Go l0_B C 0 0 35 [(0, .ref o), (1, .ref 10), (2, .ref 17), (3, .long x3), (5, .int x5), (6, .int x6)] [] h := by
  have hn6 : ∀ w ∈ wsX60, w ∈ wsX7_carriedFirst := (fun _ hw => (List.mem_cons_of_mem _ (List.mem_append_left _ (List.mem_append_right _ hw))))
  have hn9 : ∀ w ∈ wsX90, w ∈ wsX7_carriedFirst := (fun _ hw => (List.mem_cons_of_mem _ (List.mem_append_left _ (List.mem_append_left _ (List.mem_append_right _ hw)))))
  intro n9
  induction n9 with
  | zero =>
    intro x3 x5 x6 y hlp
    cases hlp
  | succ n9 ih =>
    intro x3 x5 x6 y hlp ho ha hk
    obtain ⟨k9, z, hk9, hf, hy⟩ := lp_e hlp
    cases hk9
    replace hf : lb_X7_carriedFirst_35 9 a n o h x3 x5 x6 = some z := hf
    unfold lb_X7_carriedFirst_35 at hf
    refine go_iload hC dX7_carriedFirst_35 5 rfl ?_
    refine go_if_lt hC dX7_carriedFirst_37 (tgt := 80) (by decide) (fun c_19 => ?_) (fun c_19 => ?_)
    · replace hf := if_t c_19 hf
      obtain rfl := so_1 hf
      obtain rfl := lp_x hy
      refine go_sub [3] rfl ?_
      exact hk
    · replace hf := if_f c_19 hf
      refine go_iload hC dX7_carriedFirst_40 4 rfl ?_
      refine go_aload_n hC dX7_carriedFirst_42 rfl 0 rfl ?_
      refine go_iload hC dX7_carriedFirst_43 5 rfl ?_
      refine go_iconst hC dX7_carriedFirst_45 k1_1 ?_
      refine go_iadd hC dX7_carriedFirst_46 ?_
      refine go_aload_n hC dX7_carriedFirst_47 rfl 1 rfl ?_
      refine go_aload_n hC dX7_carriedFirst_48 rfl 2 rfl ?_
      obtain ⟨r_12, hc, hf⟩ := bd_e1 hf
      refine go_callU hC (c_X1_yardsOf_X9 a n o (x6 + 1) h r_12 ho ha hc) gX7_carriedFirst_X1_yardsOf_u21X9 rfl ⟨rfl, rfl⟩ rfl 3 (by decide +kernel) ⟨Nat.le_of_ble_eq_true rfl, Nat.le_of_ble_eq_true rfl⟩ ho rfl rfl (st := [.int x5]) (st1 := [.int r_12, .int x5]) rfl rfl (Nat.le_of_ble_eq_true rfl) ⟨Nat.zero_le _, Nat.zero_le _⟩ dX7_carriedFirst_49 ?_
      refine go_iadd hC dX7_carriedFirst_52 ?_
      obtain ⟨x5_13, ex5_13, hf⟩ := lt_e hf
      refine go_topi ex5_13 ?_
      refine go_istore hC dX7_carriedFirst_53 (Nat.le_of_ble_eq_true rfl) rfl ?_
      refine go_lload_n hC dX7_carriedFirst_55 rfl 4 rfl ?_
      refine go_aload_n hC dX7_carriedFirst_56 rfl 3 rfl ?_
      refine go_getr hC (j := 2) (idx := 25) (nm := "loads") (ds := "[I") (b_17 _) rfl rfl hn6 (Nat.le_of_ble_eq_true rfl) rfl rfl (List.mem_cons_of_mem _ (List.mem_append_left _ (List.mem_append_left _ (List.mem_append_left _ (List.mem_append_left _ (List.mem_append_left _ (List.mem_append_left _ (List.mem_of_getElem? (i := 2) rfl)))))))) (Or.inl rfl) dX7_carriedFirst_57 ?_
      refine go_aload_n hC dX7_carriedFirst_60 rfl 1 rfl ?_
      obtain ⟨g_14, hf⟩ := gz_e hf
      refine go_geto hC (j := 2) (idx := 7) (nm := "stops") (ds := "[I") ho rfl rfl hn9 (Nat.le_of_ble_eq_true rfl) rfl rfl (List.mem_cons_of_mem _ (List.mem_append_left _ (List.mem_append_left _ (List.mem_append_left _ (List.mem_append_left _ (List.mem_append_left _ (List.mem_append_left _ (List.mem_of_getElem? (i := 0) rfl)))))))) (Or.inr (List.mem_cons_of_mem _ (List.mem_append_left _ (List.mem_append_left _ (List.mem_append_left _ (List.mem_append_left _ (List.mem_append_left _ (List.mem_append_left _ (List.mem_of_getElem? (i := 1) rfl))))))))) g_14 dX7_carriedFirst_61 ?_
      refine go_iload hC dX7_carriedFirst_64 5 rfl ?_
      obtain ⟨g_15, hf⟩ := ga_e hf
      refine go_iald hC ha g_15 dX7_carriedFirst_66 ?_
      obtain ⟨g_16, hf⟩ := ga_e hf
      refine go_iald hC (b_19 _) g_16 dX7_carriedFirst_67 ?_
      refine go_iload hC dX7_carriedFirst_68 0 rfl ?_
      refine go_imul hC dX7_carriedFirst_70 ?_
      refine go_i2l hC dX7_carriedFirst_71 ?_
      refine go_ladd hC dX7_carriedFirst_72 ?_
      obtain ⟨x3_17, ex3_17, hf⟩ := lt_e hf
      refine go_topl ex3_17 ?_
      refine go_lstore_n hC dX7_carriedFirst_73 rfl (Nat.le_of_ble_eq_true rfl) rfl ?_
      obtain ⟨x6_18, ex6_18, hf⟩ := lt_e hf
      refine go_iinc hC dX7_carriedFirst_74 5 rfl k1_m1 ex6_18 (Nat.le_of_ble_eq_true rfl) rfl ?_
      refine go_goto hC dX7_carriedFirst_77 (tgt := 35) (by decide) ?_
      obtain rfl := so_1 hf
      refine go_sub [3, 4, 5, 1, 2, 0] rfl ?_
      exact ih x3_17 x5_13 x6_18 _ (lp_c hy) ho ha hk
set_option maxRecDepth 100000 in
set_option maxHeartbeats 4000000 in
theorem c_X7_carriedFirst_X9 (a n o : Nat) (h : PH) (r : Int64) (ho : (l0_B ++ h.2.2.2)[o]? = some (.inr (9, [(0, 0), (0, 0), (2, a)]))) (ha : (l0_B ++ h.2.2.2)[a]? = some (.inl (0, n))) (hf : f_X7_carriedFirst 9 a n o h = some r) : Con yX7_carriedFirst wsX7_carriedFirst (rm_d 3) l0_B [.ref o, .ref 10, .ref 17] h (some (.long r)) h := by
  have hn6 : ∀ w ∈ wsX60, w ∈ wsX7_carriedFirst := (fun _ hw => (List.mem_cons_of_mem _ (List.mem_append_left _ (List.mem_append_right _ hw))))
  have hn9 : ∀ w ∈ wsX90, w ∈ wsX7_carriedFirst := (fun _ hw => (List.mem_cons_of_mem _ (List.mem_append_left _ (List.mem_append_left _ (List.mem_append_right _ hw)))))
  refine con_l (cc := cX7_carriedFirst) (nL := 7) (by decide) rfl (Nat.le_of_ble_eq_true rfl) ?_
  intro C hC hret
  change Go l0_B C 0 0 0 [(0, .ref o), (1, .ref 10), (2, .ref 17)] [] h
  unfold f_X7_carriedFirst at hf
  refine go_aload_n hC dX7_carriedFirst_0 rfl 0 rfl ?_
  refine go_aload_n hC dX7_carriedFirst_1 rfl 1 rfl ?_
  refine go_aload_n hC dX7_carriedFirst_2 rfl 2 rfl ?_
  obtain ⟨r_1, hc, hf⟩ := bd_e1 hf
  refine go_callU hC (c_X1_allYards_X9 a n o h r_1 ho ha hc) gX7_carriedFirst_X1_allYards_u13X9 rfl ⟨rfl, rfl⟩ rfl 2 (by decide +kernel) ⟨Nat.le_of_ble_eq_true rfl, Nat.le_of_ble_eq_true rfl⟩ ho rfl rfl (st := []) (st1 := [.int r_1]) rfl rfl (Nat.le_of_ble_eq_true rfl) ⟨Nat.zero_le _, Nat.zero_le _⟩ dX7_carriedFirst_3 ?_
  refine go_if_ne hC dX7_carriedFirst_6 (tgt := 21) (by decide) (fun c_23 => ?_) (fun c_23 => ?_)
  · replace hf := if_f c_23 hf
    refine go_lconst hC dX7_carriedFirst_21 (v := 0) rfl ?_
    refine go_lstore_n hC dX7_carriedFirst_22 rfl (Nat.le_of_ble_eq_true rfl) rfl ?_
    refine go_iconst hC dX7_carriedFirst_23 k1_0 ?_
    refine go_istore hC dX7_carriedFirst_24 (Nat.le_of_ble_eq_true rfl) rfl ?_
    refine go_aload_n hC dX7_carriedFirst_26 rfl 2 rfl ?_
    obtain ⟨g_2, hf⟩ := gz_e hf
    refine go_geto hC (j := 2) (idx := 7) (nm := "stops") (ds := "[I") ho rfl rfl hn9 (Nat.le_of_ble_eq_true rfl) rfl rfl (List.mem_cons_of_mem _ (List.mem_append_left _ (List.mem_append_left _ (List.mem_append_left _ (List.mem_append_left _ (List.mem_append_left _ (List.mem_append_left _ (List.mem_of_getElem? (i := 0) rfl)))))))) (Or.inr (List.mem_cons_of_mem _ (List.mem_append_left _ (List.mem_append_left _ (List.mem_append_left _ (List.mem_append_left _ (List.mem_append_left _ (List.mem_append_left _ (List.mem_of_getElem? (i := 1) rfl))))))))) g_2 dX7_carriedFirst_27 ?_
    refine go_alen hC ha (Nat.le_of_ble_eq_true rfl) rfl dX7_carriedFirst_30 ?_
    refine go_iconst hC dX7_carriedFirst_31 k1_1 ?_
    refine go_isub hC dX7_carriedFirst_32 ?_
    obtain ⟨x6_3, ex6_3, hf⟩ := lt_e hf
    refine go_topi ex6_3 ?_
    refine go_istore hC dX7_carriedFirst_33 (Nat.le_of_ble_eq_true rfl) rfl ?_
    obtain ⟨s_20, hl, hf⟩ := bd_e1 hf
    refine go_sub [3, 4, 5, 2, 1, 0] rfl ?_
    refine lw_X7_carriedFirst_35_X9 hC a n o h _ 0 0 x6_3 s_20 hl ho ha ?_
    refine go_lload_n hC dX7_carriedFirst_80 rfl 0 rfl ?_
    obtain rfl := so_1 hf
    exact hret _ _ dX7_carriedFirst_81
  · replace hf := if_t c_23 hf
    refine go_aload_n hC dX7_carriedFirst_9 rfl 0 rfl ?_
    refine go_aload_n hC dX7_carriedFirst_10 rfl 0 rfl ?_
    obtain ⟨g_21, hf⟩ := gz_e hf
    refine go_geto hC (j := 2) (idx := 7) (nm := "stops") (ds := "[I") ho rfl rfl hn9 (Nat.le_of_ble_eq_true rfl) rfl rfl (List.mem_cons_of_mem _ (List.mem_append_left _ (List.mem_append_left _ (List.mem_append_left _ (List.mem_append_left _ (List.mem_append_left _ (List.mem_append_left _ (List.mem_of_getElem? (i := 0) rfl)))))))) (Or.inr (List.mem_cons_of_mem _ (List.mem_append_left _ (List.mem_append_left _ (List.mem_append_left _ (List.mem_append_left _ (List.mem_append_left _ (List.mem_append_left _ (List.mem_of_getElem? (i := 1) rfl))))))))) g_21 dX7_carriedFirst_11 ?_
    refine go_alen hC ha (Nat.le_of_ble_eq_true rfl) rfl dX7_carriedFirst_14 ?_
    refine go_aload_n hC dX7_carriedFirst_15 rfl 2 rfl ?_
    obtain ⟨r_22, hc, hf⟩ := bd_e1 hf
    refine go_callU hC (c_X1_loadsAhead_X9 a n o (Int32.ofNat n) h r_22 ho ha hc) gX7_carriedFirst_X1_loadsAhead_u17X9 rfl ⟨rfl, rfl⟩ rfl 2 (by decide +kernel) ⟨Nat.le_of_ble_eq_true rfl, Nat.le_of_ble_eq_true rfl⟩ ho rfl rfl (st := []) (st1 := [.int r_22]) rfl rfl (Nat.le_of_ble_eq_true rfl) ⟨Nat.zero_le _, Nat.zero_le _⟩ dX7_carriedFirst_16 ?_
    refine go_i2l hC dX7_carriedFirst_19 ?_
    obtain rfl := so_1 hf
    exact hret _ _ dX7_carriedFirst_20
def f_X7_carriedLower (ci a n o : Nat) (h : PH) : Option (Int64) :=
  bd_1 (f_X1_allYards ci a n o h) fun r_1 =>
  if r_1 = 0 then (
  some 1)
  else (
  some r_1.toInt64)
theorem e_X7_carriedLower : yX7_carriedLower.cls = RX7 ∧ yX7_carriedLower.cls ≠ "java/lang/invoke/MethodHandle" ∧ yX7_carriedLower.cls ≠ "java/lang/invoke/VarHandle" ∧ (parseMethodDescriptor yX7_carriedLower.desc).map (fun d => d.parameters.length) = some 2 := by decide +kernel
set_option maxRecDepth 100000 in
set_option maxHeartbeats 4000000 in
theorem c_X7_carriedLower_X7 (a n o : Nat) (h : PH) (r : Int64) (ho : (l0_B ++ h.2.2.2)[o]? = some (.inr (7, [(0, 0), (0, 0), (2, a)]))) (ha : (l0_B ++ h.2.2.2)[a]? = some (.inl (0, n))) (hf : f_X7_carriedLower 7 a n o h = some r) : Con yX7_carriedLower wsX7_carriedLower (rm_d 3) l0_B [.ref o, .ref 10, .ref 17] h (some (.long r)) h := by

  refine con_l (cc := cX7_carriedLower) (nL := 4) (by decide) rfl (Nat.le_of_ble_eq_true rfl) ?_
  intro C hC hret
  change Go l0_B C 0 0 0 [(0, .ref o), (1, .ref 10), (2, .ref 17)] [] h
  unfold f_X7_carriedLower at hf
  refine go_aload_n hC dX7_carriedLower_0 rfl 0 rfl ?_
  refine go_aload_n hC dX7_carriedLower_1 rfl 1 rfl ?_
  refine go_aload_n hC dX7_carriedLower_2 rfl 2 rfl ?_
  obtain ⟨r_1, hc, hf⟩ := bd_e1 hf
  refine go_callU hC (c_X1_allYards_X7 a n o h r_1 ho ha hc) gX7_carriedLower_X1_allYards_u13X7 rfl ⟨rfl, rfl⟩ rfl 2 (by decide +kernel) ⟨Nat.le_of_ble_eq_true rfl, Nat.le_of_ble_eq_true rfl⟩ ho rfl rfl (st := []) (st1 := [.int r_1]) rfl rfl (Nat.le_of_ble_eq_true rfl) ⟨Nat.zero_le _, Nat.zero_le _⟩ dX7_carriedLower_3 ?_
  refine go_istore_n hC dX7_carriedLower_6 rfl (Nat.le_of_ble_eq_true rfl) rfl ?_
  refine go_iload_n hC dX7_carriedLower_7 rfl 0 rfl ?_
  refine go_if_ne hC dX7_carriedLower_8 (tgt := 15) (by decide) (fun c_2 => ?_) (fun c_2 => ?_)
  · replace hf := if_f c_2 hf
    refine go_iload_n hC dX7_carriedLower_15 rfl 0 rfl ?_
    refine go_i2l hC dX7_carriedLower_16 ?_
    obtain rfl := so_1 hf
    exact hret _ _ dX7_carriedLower_17
  · replace hf := if_t c_2 hf
    refine go_lconst hC dX7_carriedLower_11 (v := 1) rfl ?_
    refine go_goto hC dX7_carriedLower_12 (tgt := 17) (by decide) ?_
    obtain rfl := so_1 hf
    exact hret _ _ dX7_carriedLower_17
set_option maxRecDepth 100000 in
set_option maxHeartbeats 4000000 in
theorem c_X7_carriedLower_X9 (a n o : Nat) (h : PH) (r : Int64) (ho : (l0_B ++ h.2.2.2)[o]? = some (.inr (9, [(0, 0), (0, 0), (2, a)]))) (ha : (l0_B ++ h.2.2.2)[a]? = some (.inl (0, n))) (hf : f_X7_carriedLower 9 a n o h = some r) : Con yX7_carriedLower wsX7_carriedLower (rm_d 3) l0_B [.ref o, .ref 10, .ref 17] h (some (.long r)) h := by

  refine con_l (cc := cX7_carriedLower) (nL := 4) (by decide) rfl (Nat.le_of_ble_eq_true rfl) ?_
  intro C hC hret
  change Go l0_B C 0 0 0 [(0, .ref o), (1, .ref 10), (2, .ref 17)] [] h
  unfold f_X7_carriedLower at hf
  refine go_aload_n hC dX7_carriedLower_0 rfl 0 rfl ?_
  refine go_aload_n hC dX7_carriedLower_1 rfl 1 rfl ?_
  refine go_aload_n hC dX7_carriedLower_2 rfl 2 rfl ?_
  obtain ⟨r_1, hc, hf⟩ := bd_e1 hf
  refine go_callU hC (c_X1_allYards_X9 a n o h r_1 ho ha hc) gX7_carriedLower_X1_allYards_u13X9 rfl ⟨rfl, rfl⟩ rfl 2 (by decide +kernel) ⟨Nat.le_of_ble_eq_true rfl, Nat.le_of_ble_eq_true rfl⟩ ho rfl rfl (st := []) (st1 := [.int r_1]) rfl rfl (Nat.le_of_ble_eq_true rfl) ⟨Nat.zero_le _, Nat.zero_le _⟩ dX7_carriedLower_3 ?_
  refine go_istore_n hC dX7_carriedLower_6 rfl (Nat.le_of_ble_eq_true rfl) rfl ?_
  refine go_iload_n hC dX7_carriedLower_7 rfl 0 rfl ?_
  refine go_if_ne hC dX7_carriedLower_8 (tgt := 15) (by decide) (fun c_2 => ?_) (fun c_2 => ?_)
  · replace hf := if_f c_2 hf
    refine go_iload_n hC dX7_carriedLower_15 rfl 0 rfl ?_
    refine go_i2l hC dX7_carriedLower_16 ?_
    obtain rfl := so_1 hf
    exact hret _ _ dX7_carriedLower_17
  · replace hf := if_t c_2 hf
    refine go_lconst hC dX7_carriedLower_11 (v := 1) rfl ?_
    refine go_goto hC dX7_carriedLower_12 (tgt := 17) (by decide) ?_
    obtain rfl := so_1 hf
    exact hret _ _ dX7_carriedLower_17
def vd_carriedFirst (ci a n o : Nat) (h : PH) : Option (Int64) := if ci = 1 then f_X1_carriedFirst ci a n o h else if ci = 7 then f_X7_carriedFirst ci a n o h else f_X7_carriedFirst ci a n o h
def vd_carriedLower (ci a n o : Nat) (h : PH) : Option (Int64) := if ci = 1 then f_X1_carriedLower ci a n o h else if ci = 7 then f_X7_carriedLower ci a n o h else f_X7_carriedLower ci a n o h
def f_X1_carriedUpper (ci a n o : Nat) (x1 : Int32) (h : PH) : Option (Int64) :=
  bd_1 (vd_carriedFirst ci a n o h) fun r_1 =>
  bd_1 (vd_carriedLower ci a n o h) fun r_2 =>
  bd_1 (f_X1_loadsAhead ci a n o x1 h) fun r_3 =>
  some (r_1 - (r_2 * r_3.toInt64))
theorem e_X1_carriedUpper : yX1_carriedUpper.cls = RX1 ∧ yX1_carriedUpper.cls ≠ "java/lang/invoke/MethodHandle" ∧ yX1_carriedUpper.cls ≠ "java/lang/invoke/VarHandle" ∧ (parseMethodDescriptor yX1_carriedUpper.desc).map (fun d => d.parameters.length) = some 3 := by decide +kernel
set_option maxRecDepth 100000 in
set_option maxHeartbeats 4000000 in
theorem c_X1_carriedUpper_X1 (a n o : Nat) (x1 : Int32) (h : PH) (r : Int64) (ho : (l0_B ++ h.2.2.2)[o]? = some (.inr (1, [(0, 0), (0, 0), (2, a)]))) (ha : (l0_B ++ h.2.2.2)[a]? = some (.inl (0, n))) (hf : f_X1_carriedUpper 1 a n o x1 h = some r) : Con yX1_carriedUpper wsX1_carriedUpper (rm_d 4) l0_B [.ref o, .int x1, .ref 10, .ref 17] h (some (.long r)) h := by

  refine con_l (cc := cX1_carriedUpper) (nL := 4) (by decide) rfl (Nat.le_of_ble_eq_true rfl) ?_
  intro C hC hret
  change Go l0_B C 0 0 0 [(0, .ref o), (1, .int x1), (2, .ref 10), (3, .ref 17)] [] h
  unfold f_X1_carriedUpper at hf
  refine go_aload_n hC dX1_carriedUpper_0 rfl 0 rfl ?_
  refine go_aload_n hC dX1_carriedUpper_1 rfl 2 rfl ?_
  refine go_aload_n hC dX1_carriedUpper_2 rfl 3 rfl ?_
  obtain ⟨r_1, hc, hf⟩ := bd_e1 hf
  refine go_callV hC (c_X1_carriedFirst_X1 a n o h r_1 ho ha hc) gX1_carriedUpper_X1_carriedFirst rfl ⟨rfl, rfl⟩ 2 e_X1_carriedFirst ⟨Nat.le_of_ble_eq_true rfl, Nat.le_of_ble_eq_true rfl⟩ ho rfl rfl (st := []) (st1 := [.long r_1]) rfl rfl (Nat.le_of_ble_eq_true rfl) ⟨Nat.zero_le _, Nat.zero_le _⟩ dX1_carriedUpper_3 ?_
  refine go_aload_n hC dX1_carriedUpper_6 rfl 0 rfl ?_
  refine go_aload_n hC dX1_carriedUpper_7 rfl 2 rfl ?_
  refine go_aload_n hC dX1_carriedUpper_8 rfl 3 rfl ?_
  obtain ⟨r_2, hc, hf⟩ := bd_e1 hf
  refine go_callV hC (c_X1_carriedLower_X1 a n o h r_2 ho ha hc) gX1_carriedUpper_X1_carriedLower rfl ⟨rfl, rfl⟩ 2 e_X1_carriedLower ⟨Nat.le_of_ble_eq_true rfl, Nat.le_of_ble_eq_true rfl⟩ ho rfl rfl (st := [.long r_1]) (st1 := [.long r_2, .long r_1]) rfl rfl (Nat.le_of_ble_eq_true rfl) ⟨Nat.zero_le _, Nat.zero_le _⟩ dX1_carriedUpper_9 ?_
  refine go_aload_n hC dX1_carriedUpper_12 rfl 0 rfl ?_
  refine go_iload_n hC dX1_carriedUpper_13 rfl 1 rfl ?_
  refine go_aload_n hC dX1_carriedUpper_14 rfl 3 rfl ?_
  obtain ⟨r_3, hc, hf⟩ := bd_e1 hf
  refine go_callV hC (c_X1_loadsAhead_X1 a n o x1 h r_3 ho ha hc) gX1_carriedUpper_X1_loadsAhead rfl ⟨rfl, rfl⟩ 2 e_X1_loadsAhead ⟨Nat.le_of_ble_eq_true rfl, Nat.le_of_ble_eq_true rfl⟩ ho rfl rfl (st := [.long r_2, .long r_1]) (st1 := [.int r_3, .long r_2, .long r_1]) rfl rfl (Nat.le_of_ble_eq_true rfl) ⟨Nat.zero_le _, Nat.zero_le _⟩ dX1_carriedUpper_15 ?_
  refine go_i2l hC dX1_carriedUpper_18 ?_
  refine go_lmul hC dX1_carriedUpper_19 ?_
  refine go_lsub hC dX1_carriedUpper_20 ?_
  obtain rfl := so_1 hf
  exact hret _ _ dX1_carriedUpper_21
set_option maxRecDepth 100000 in
set_option maxHeartbeats 4000000 in
theorem c_X1_carriedUpper_X7 (a n o : Nat) (x1 : Int32) (h : PH) (r : Int64) (ho : (l0_B ++ h.2.2.2)[o]? = some (.inr (7, [(0, 0), (0, 0), (2, a)]))) (ha : (l0_B ++ h.2.2.2)[a]? = some (.inl (0, n))) (hf : f_X1_carriedUpper 7 a n o x1 h = some r) : Con yX1_carriedUpper wsX1_carriedUpper (rm_d 4) l0_B [.ref o, .int x1, .ref 10, .ref 17] h (some (.long r)) h := by

  refine con_l (cc := cX1_carriedUpper) (nL := 4) (by decide) rfl (Nat.le_of_ble_eq_true rfl) ?_
  intro C hC hret
  change Go l0_B C 0 0 0 [(0, .ref o), (1, .int x1), (2, .ref 10), (3, .ref 17)] [] h
  unfold f_X1_carriedUpper at hf
  refine go_aload_n hC dX1_carriedUpper_0 rfl 0 rfl ?_
  refine go_aload_n hC dX1_carriedUpper_1 rfl 2 rfl ?_
  refine go_aload_n hC dX1_carriedUpper_2 rfl 3 rfl ?_
  obtain ⟨r_1, hc, hf⟩ := bd_e1 hf
  refine go_callO hC (c_X7_carriedFirst_X7 a n o h r_1 ho ha hc) gX1_carriedUpper_X7_carriedFirst_u44X7 rfl ⟨rfl, rfl⟩ (List.mem_cons_of_mem _ (List.mem_append_left _ (List.mem_append_left _ (List.mem_append_left _ (List.mem_append_left _ (List.mem_append_left _ (List.mem_append_left _ (List.mem_of_getElem? (i := 4) rfl)))))))) 2 (by decide +kernel) ⟨Nat.le_of_ble_eq_true rfl, Nat.le_of_ble_eq_true rfl⟩ ho rfl rfl (st := []) (st1 := [.long r_1]) rfl rfl (Nat.le_of_ble_eq_true rfl) ⟨Nat.zero_le _, Nat.zero_le _⟩ dX1_carriedUpper_3 ?_
  refine go_aload_n hC dX1_carriedUpper_6 rfl 0 rfl ?_
  refine go_aload_n hC dX1_carriedUpper_7 rfl 2 rfl ?_
  refine go_aload_n hC dX1_carriedUpper_8 rfl 3 rfl ?_
  obtain ⟨r_2, hc, hf⟩ := bd_e1 hf
  refine go_callO hC (c_X7_carriedLower_X7 a n o h r_2 ho ha hc) gX1_carriedUpper_X7_carriedLower_u48X7 rfl ⟨rfl, rfl⟩ (List.mem_cons_of_mem _ (List.mem_append_left _ (List.mem_append_left _ (List.mem_append_left _ (List.mem_append_left _ (List.mem_append_left _ (List.mem_append_right _ (List.mem_append_right _ (List.mem_append_right _ (List.mem_of_getElem? (i := 7) rfl)))))))))) 2 (by decide +kernel) ⟨Nat.le_of_ble_eq_true rfl, Nat.le_of_ble_eq_true rfl⟩ ho rfl rfl (st := [.long r_1]) (st1 := [.long r_2, .long r_1]) rfl rfl (Nat.le_of_ble_eq_true rfl) ⟨Nat.zero_le _, Nat.zero_le _⟩ dX1_carriedUpper_9 ?_
  refine go_aload_n hC dX1_carriedUpper_12 rfl 0 rfl ?_
  refine go_iload_n hC dX1_carriedUpper_13 rfl 1 rfl ?_
  refine go_aload_n hC dX1_carriedUpper_14 rfl 3 rfl ?_
  obtain ⟨r_3, hc, hf⟩ := bd_e1 hf
  refine go_callU hC (c_X1_loadsAhead_X7 a n o x1 h r_3 ho ha hc) gX1_carriedUpper_X1_loadsAhead_u22X7 rfl ⟨rfl, rfl⟩ rfl 2 (by decide +kernel) ⟨Nat.le_of_ble_eq_true rfl, Nat.le_of_ble_eq_true rfl⟩ ho rfl rfl (st := [.long r_2, .long r_1]) (st1 := [.int r_3, .long r_2, .long r_1]) rfl rfl (Nat.le_of_ble_eq_true rfl) ⟨Nat.zero_le _, Nat.zero_le _⟩ dX1_carriedUpper_15 ?_
  refine go_i2l hC dX1_carriedUpper_18 ?_
  refine go_lmul hC dX1_carriedUpper_19 ?_
  refine go_lsub hC dX1_carriedUpper_20 ?_
  obtain rfl := so_1 hf
  exact hret _ _ dX1_carriedUpper_21
set_option maxRecDepth 100000 in
set_option maxHeartbeats 4000000 in
theorem c_X1_carriedUpper_X9 (a n o : Nat) (x1 : Int32) (h : PH) (r : Int64) (ho : (l0_B ++ h.2.2.2)[o]? = some (.inr (9, [(0, 0), (0, 0), (2, a)]))) (ha : (l0_B ++ h.2.2.2)[a]? = some (.inl (0, n))) (hf : f_X1_carriedUpper 9 a n o x1 h = some r) : Con yX1_carriedUpper wsX1_carriedUpper (rm_d 4) l0_B [.ref o, .int x1, .ref 10, .ref 17] h (some (.long r)) h := by

  refine con_l (cc := cX1_carriedUpper) (nL := 4) (by decide) rfl (Nat.le_of_ble_eq_true rfl) ?_
  intro C hC hret
  change Go l0_B C 0 0 0 [(0, .ref o), (1, .int x1), (2, .ref 10), (3, .ref 17)] [] h
  unfold f_X1_carriedUpper at hf
  refine go_aload_n hC dX1_carriedUpper_0 rfl 0 rfl ?_
  refine go_aload_n hC dX1_carriedUpper_1 rfl 2 rfl ?_
  refine go_aload_n hC dX1_carriedUpper_2 rfl 3 rfl ?_
  obtain ⟨r_1, hc, hf⟩ := bd_e1 hf
  refine go_callO hC (c_X7_carriedFirst_X9 a n o h r_1 ho ha hc) gX1_carriedUpper_X7_carriedFirst_u44X9 rfl ⟨rfl, rfl⟩ (List.mem_cons_of_mem _ (List.mem_append_left _ (List.mem_append_left _ (List.mem_append_left _ (List.mem_append_left _ (List.mem_append_left _ (List.mem_append_left _ (List.mem_of_getElem? (i := 4) rfl)))))))) 2 (by decide +kernel) ⟨Nat.le_of_ble_eq_true rfl, Nat.le_of_ble_eq_true rfl⟩ ho rfl rfl (st := []) (st1 := [.long r_1]) rfl rfl (Nat.le_of_ble_eq_true rfl) ⟨Nat.zero_le _, Nat.zero_le _⟩ dX1_carriedUpper_3 ?_
  refine go_aload_n hC dX1_carriedUpper_6 rfl 0 rfl ?_
  refine go_aload_n hC dX1_carriedUpper_7 rfl 2 rfl ?_
  refine go_aload_n hC dX1_carriedUpper_8 rfl 3 rfl ?_
  obtain ⟨r_2, hc, hf⟩ := bd_e1 hf
  refine go_callO hC (c_X7_carriedLower_X9 a n o h r_2 ho ha hc) gX1_carriedUpper_X7_carriedLower_u48X9 rfl ⟨rfl, rfl⟩ (List.mem_cons_of_mem _ (List.mem_append_left _ (List.mem_append_left _ (List.mem_append_left _ (List.mem_append_left _ (List.mem_append_left _ (List.mem_append_right _ (List.mem_append_right _ (List.mem_append_right _ (List.mem_of_getElem? (i := 7) rfl)))))))))) 2 (by decide +kernel) ⟨Nat.le_of_ble_eq_true rfl, Nat.le_of_ble_eq_true rfl⟩ ho rfl rfl (st := [.long r_1]) (st1 := [.long r_2, .long r_1]) rfl rfl (Nat.le_of_ble_eq_true rfl) ⟨Nat.zero_le _, Nat.zero_le _⟩ dX1_carriedUpper_9 ?_
  refine go_aload_n hC dX1_carriedUpper_12 rfl 0 rfl ?_
  refine go_iload_n hC dX1_carriedUpper_13 rfl 1 rfl ?_
  refine go_aload_n hC dX1_carriedUpper_14 rfl 3 rfl ?_
  obtain ⟨r_3, hc, hf⟩ := bd_e1 hf
  refine go_callU hC (c_X1_loadsAhead_X9 a n o x1 h r_3 ho ha hc) gX1_carriedUpper_X1_loadsAhead_u22X9 rfl ⟨rfl, rfl⟩ rfl 2 (by decide +kernel) ⟨Nat.le_of_ble_eq_true rfl, Nat.le_of_ble_eq_true rfl⟩ ho rfl rfl (st := [.long r_2, .long r_1]) (st1 := [.int r_3, .long r_2, .long r_1]) rfl rfl (Nat.le_of_ble_eq_true rfl) ⟨Nat.zero_le _, Nat.zero_le _⟩ dX1_carriedUpper_15 ?_
  refine go_i2l hC dX1_carriedUpper_18 ?_
  refine go_lmul hC dX1_carriedUpper_19 ?_
  refine go_lsub hC dX1_carriedUpper_20 ?_
  obtain rfl := so_1 hf
  exact hret _ _ dX1_carriedUpper_21
def lb_X1_droppedUpper_6 (ci a n o : Nat) (x1 : Int32) (h : PH) (x4 : Int64) (x6 : Int32) : Option ((Int64 × Int32) ⊕ (Int64 × Int32)) :=
  if x1 < x6 then (
  some (.inr (x4, x6)))
  else (
  bd_1 (f_X1_yardsOf ci a n o x6 h) fun r_6 =>
  bd_1 (f_X1_carriedUpper ci a n o x6 h) fun r_7 =>
  lt_b (x4 + (r_6.toInt64 * r_7)) fun x4_8 =>
  lt_b (x6 + 1) fun x6_9 =>
  some (.inl (x4_8, x6_9)))
def f_X1_droppedUpper (ci a n o : Nat) (x1 : Int32) (h : PH) : Option (Int64) :=
  bd_1 (lp_f (fun s => lb_X1_droppedUpper_6 ci a n o x1 h s.1 s.2) fu_l (0, 0)) fun s_11 =>
  some s_11.1
set_option maxRecDepth 100000 in
set_option maxHeartbeats 4000000 in
theorem lw_X1_droppedUpper_6_X1 {C : GC} (hC : Cx C cX1_droppedUpper 7 wsX1_droppedUpper RX1 (some .long) (rm_d 5)) (a n o : Nat) (x1 : Int32) (h : PH) : ∀ (n9 : Nat) (x4 : Int64) (x6 : Int32) (y : Int64 × Int32), lp_f (fun s => lb_X1_droppedUpper_6 1 a n o x1 h s.1 s.2) n9 (x4, x6) = some y → (l0_B ++ h.2.2.2)[o]? = some (.inr (1, [(0, 0), (0, 0), (2, a)])) → (l0_B ++ h.2.2.2)[a]? = some (.inl (0, n)) → ∀ (hk : Go l0_B C 0 0 41 [(4, .long y.1)] [] h), Go l0_B C 0 0 6 [(0, .ref o), (1, .int x1), (2, .ref 10), (3, .ref 17), (4, .long x4), (6, .int x6)] [] h := by

  intro n9
  induction n9 with
  | zero =>
    intro x4 x6 y hlp
    cases hlp
  | succ n9 ih =>
    intro x4 x6 y hlp ho ha hk
    obtain ⟨k9, z, hk9, hf, hy⟩ := lp_e hlp
    cases hk9
    replace hf : lb_X1_droppedUpper_6 1 a n o x1 h x4 x6 = some z := hf
    unfold lb_X1_droppedUpper_6 at hf
    refine go_iload hC dX1_droppedUpper_6 5 rfl ?_
    refine go_iload_n hC dX1_droppedUpper_8 rfl 1 rfl ?_
    refine go_icmp_gt hC dX1_droppedUpper_9 (tgt := 41) (by decide) (fun c_10 => ?_) (fun c_10 => ?_)
    · replace hf := if_t c_10 hf
      obtain rfl := so_1 hf
      obtain rfl := lp_x hy
      refine go_sub [4] rfl ?_
      exact hk
    · replace hf := if_f c_10 hf
      refine go_lload hC dX1_droppedUpper_12 4 rfl ?_
      refine go_aload_n hC dX1_droppedUpper_14 rfl 0 rfl ?_
      refine go_iload hC dX1_droppedUpper_15 5 rfl ?_
      refine go_aload_n hC dX1_droppedUpper_17 rfl 2 rfl ?_
      refine go_aload_n hC dX1_droppedUpper_18 rfl 3 rfl ?_
      obtain ⟨r_6, hc, hf⟩ := bd_e1 hf
      refine go_callV hC (c_X1_yardsOf_X1 a n o x6 h r_6 ho ha hc) gX1_droppedUpper_X1_yardsOf rfl ⟨rfl, rfl⟩ 3 e_X1_yardsOf ⟨Nat.le_of_ble_eq_true rfl, Nat.le_of_ble_eq_true rfl⟩ ho rfl rfl (st := [.long x4]) (st1 := [.int r_6, .long x4]) rfl rfl (Nat.le_of_ble_eq_true rfl) ⟨Nat.zero_le _, Nat.zero_le _⟩ dX1_droppedUpper_19 ?_
      refine go_i2l hC dX1_droppedUpper_22 ?_
      refine go_aload_n hC dX1_droppedUpper_23 rfl 0 rfl ?_
      refine go_iload hC dX1_droppedUpper_24 5 rfl ?_
      refine go_aload_n hC dX1_droppedUpper_26 rfl 2 rfl ?_
      refine go_aload_n hC dX1_droppedUpper_27 rfl 3 rfl ?_
      obtain ⟨r_7, hc, hf⟩ := bd_e1 hf
      refine go_callV hC (c_X1_carriedUpper_X1 a n o x6 h r_7 ho ha hc) gX1_droppedUpper_X1_carriedUpper rfl ⟨rfl, rfl⟩ 3 e_X1_carriedUpper ⟨Nat.le_of_ble_eq_true rfl, Nat.le_of_ble_eq_true rfl⟩ ho rfl rfl (st := [.long r_6.toInt64, .long x4]) (st1 := [.long r_7, .long r_6.toInt64, .long x4]) rfl rfl (Nat.le_of_ble_eq_true rfl) ⟨Nat.zero_le _, Nat.zero_le _⟩ dX1_droppedUpper_28 ?_
      refine go_lmul hC dX1_droppedUpper_31 ?_
      refine go_ladd hC dX1_droppedUpper_32 ?_
      obtain ⟨x4_8, ex4_8, hf⟩ := lt_e hf
      refine go_topl ex4_8 ?_
      refine go_lstore hC dX1_droppedUpper_33 (Nat.le_of_ble_eq_true rfl) rfl ?_
      obtain ⟨x6_9, ex6_9, hf⟩ := lt_e hf
      refine go_iinc hC dX1_droppedUpper_35 5 rfl k1_1 ex6_9 (Nat.le_of_ble_eq_true rfl) rfl ?_
      refine go_goto hC dX1_droppedUpper_38 (tgt := 6) (by decide) ?_
      obtain rfl := so_1 hf
      refine go_sub [2, 3, 4, 5, 1, 0] rfl ?_
      exact ih x4_8 x6_9 _ (lp_c hy) ho ha hk
theorem e_X1_droppedUpper : yX1_droppedUpper.cls = RX1 ∧ yX1_droppedUpper.cls ≠ "java/lang/invoke/MethodHandle" ∧ yX1_droppedUpper.cls ≠ "java/lang/invoke/VarHandle" ∧ (parseMethodDescriptor yX1_droppedUpper.desc).map (fun d => d.parameters.length) = some 3 := by decide +kernel
set_option maxRecDepth 100000 in
set_option maxHeartbeats 4000000 in
theorem c_X1_droppedUpper_X1 (a n o : Nat) (x1 : Int32) (h : PH) (r : Int64) (ho : (l0_B ++ h.2.2.2)[o]? = some (.inr (1, [(0, 0), (0, 0), (2, a)]))) (ha : (l0_B ++ h.2.2.2)[a]? = some (.inl (0, n))) (hf : f_X1_droppedUpper 1 a n o x1 h = some r) : Con yX1_droppedUpper wsX1_droppedUpper (rm_d 5) l0_B [.ref o, .int x1, .ref 10, .ref 17] h (some (.long r)) h := by

  refine con_l (cc := cX1_droppedUpper) (nL := 7) (by decide) rfl (Nat.le_of_ble_eq_true rfl) ?_
  intro C hC hret
  change Go l0_B C 0 0 0 [(0, .ref o), (1, .int x1), (2, .ref 10), (3, .ref 17)] [] h
  unfold f_X1_droppedUpper at hf
  refine go_lconst hC dX1_droppedUpper_0 (v := 0) rfl ?_
  refine go_lstore hC dX1_droppedUpper_1 (Nat.le_of_ble_eq_true rfl) rfl ?_
  refine go_iconst hC dX1_droppedUpper_3 k1_0 ?_
  refine go_istore hC dX1_droppedUpper_4 (Nat.le_of_ble_eq_true rfl) rfl ?_
  obtain ⟨s_11, hl, hf⟩ := bd_e1 hf
  refine go_sub [2, 3, 4, 5, 1, 0] rfl ?_
  refine lw_X1_droppedUpper_6_X1 hC a n o x1 h _ 0 0 s_11 hl ho ha ?_
  refine go_lload hC dX1_droppedUpper_41 0 rfl ?_
  obtain rfl := so_1 hf
  exact hret _ _ dX1_droppedUpper_43
set_option maxRecDepth 100000 in
set_option maxHeartbeats 4000000 in
theorem lw_X1_droppedUpper_6_X7 {C : GC} (hC : Cx C cX1_droppedUpper 7 wsX1_droppedUpper RX1 (some .long) (rm_d 5)) (a n o : Nat) (x1 : Int32) (h : PH) : ∀ (n9 : Nat) (x4 : Int64) (x6 : Int32) (y : Int64 × Int32), lp_f (fun s => lb_X1_droppedUpper_6 7 a n o x1 h s.1 s.2) n9 (x4, x6) = some y → (l0_B ++ h.2.2.2)[o]? = some (.inr (7, [(0, 0), (0, 0), (2, a)])) → (l0_B ++ h.2.2.2)[a]? = some (.inl (0, n)) → ∀ (hk : Go l0_B C 0 0 41 [(4, .long y.1)] [] h), Go l0_B C 0 0 6 [(0, .ref o), (1, .int x1), (2, .ref 10), (3, .ref 17), (4, .long x4), (6, .int x6)] [] h := by

  intro n9
  induction n9 with
  | zero =>
    intro x4 x6 y hlp
    cases hlp
  | succ n9 ih =>
    intro x4 x6 y hlp ho ha hk
    obtain ⟨k9, z, hk9, hf, hy⟩ := lp_e hlp
    cases hk9
    replace hf : lb_X1_droppedUpper_6 7 a n o x1 h x4 x6 = some z := hf
    unfold lb_X1_droppedUpper_6 at hf
    refine go_iload hC dX1_droppedUpper_6 5 rfl ?_
    refine go_iload_n hC dX1_droppedUpper_8 rfl 1 rfl ?_
    refine go_icmp_gt hC dX1_droppedUpper_9 (tgt := 41) (by decide) (fun c_10 => ?_) (fun c_10 => ?_)
    · replace hf := if_t c_10 hf
      obtain rfl := so_1 hf
      obtain rfl := lp_x hy
      refine go_sub [4] rfl ?_
      exact hk
    · replace hf := if_f c_10 hf
      refine go_lload hC dX1_droppedUpper_12 4 rfl ?_
      refine go_aload_n hC dX1_droppedUpper_14 rfl 0 rfl ?_
      refine go_iload hC dX1_droppedUpper_15 5 rfl ?_
      refine go_aload_n hC dX1_droppedUpper_17 rfl 2 rfl ?_
      refine go_aload_n hC dX1_droppedUpper_18 rfl 3 rfl ?_
      obtain ⟨r_6, hc, hf⟩ := bd_e1 hf
      refine go_callU hC (c_X1_yardsOf_X7 a n o x6 h r_6 ho ha hc) gX1_droppedUpper_X1_yardsOf_u30X7 rfl ⟨rfl, rfl⟩ rfl 3 (by decide +kernel) ⟨Nat.le_of_ble_eq_true rfl, Nat.le_of_ble_eq_true rfl⟩ ho rfl rfl (st := [.long x4]) (st1 := [.int r_6, .long x4]) rfl rfl (Nat.le_of_ble_eq_true rfl) ⟨Nat.zero_le _, Nat.zero_le _⟩ dX1_droppedUpper_19 ?_
      refine go_i2l hC dX1_droppedUpper_22 ?_
      refine go_aload_n hC dX1_droppedUpper_23 rfl 0 rfl ?_
      refine go_iload hC dX1_droppedUpper_24 5 rfl ?_
      refine go_aload_n hC dX1_droppedUpper_26 rfl 2 rfl ?_
      refine go_aload_n hC dX1_droppedUpper_27 rfl 3 rfl ?_
      obtain ⟨r_7, hc, hf⟩ := bd_e1 hf
      refine go_callU hC (c_X1_carriedUpper_X7 a n o x6 h r_7 ho ha hc) gX1_droppedUpper_X1_carriedUpper_u51X7 rfl ⟨rfl, rfl⟩ rfl 3 (by decide +kernel) ⟨Nat.le_of_ble_eq_true rfl, Nat.le_of_ble_eq_true rfl⟩ ho rfl rfl (st := [.long r_6.toInt64, .long x4]) (st1 := [.long r_7, .long r_6.toInt64, .long x4]) rfl rfl (Nat.le_of_ble_eq_true rfl) ⟨Nat.zero_le _, Nat.zero_le _⟩ dX1_droppedUpper_28 ?_
      refine go_lmul hC dX1_droppedUpper_31 ?_
      refine go_ladd hC dX1_droppedUpper_32 ?_
      obtain ⟨x4_8, ex4_8, hf⟩ := lt_e hf
      refine go_topl ex4_8 ?_
      refine go_lstore hC dX1_droppedUpper_33 (Nat.le_of_ble_eq_true rfl) rfl ?_
      obtain ⟨x6_9, ex6_9, hf⟩ := lt_e hf
      refine go_iinc hC dX1_droppedUpper_35 5 rfl k1_1 ex6_9 (Nat.le_of_ble_eq_true rfl) rfl ?_
      refine go_goto hC dX1_droppedUpper_38 (tgt := 6) (by decide) ?_
      obtain rfl := so_1 hf
      refine go_sub [2, 3, 4, 5, 1, 0] rfl ?_
      exact ih x4_8 x6_9 _ (lp_c hy) ho ha hk
set_option maxRecDepth 100000 in
set_option maxHeartbeats 4000000 in
theorem c_X1_droppedUpper_X7 (a n o : Nat) (x1 : Int32) (h : PH) (r : Int64) (ho : (l0_B ++ h.2.2.2)[o]? = some (.inr (7, [(0, 0), (0, 0), (2, a)]))) (ha : (l0_B ++ h.2.2.2)[a]? = some (.inl (0, n))) (hf : f_X1_droppedUpper 7 a n o x1 h = some r) : Con yX1_droppedUpper wsX1_droppedUpper (rm_d 5) l0_B [.ref o, .int x1, .ref 10, .ref 17] h (some (.long r)) h := by

  refine con_l (cc := cX1_droppedUpper) (nL := 7) (by decide) rfl (Nat.le_of_ble_eq_true rfl) ?_
  intro C hC hret
  change Go l0_B C 0 0 0 [(0, .ref o), (1, .int x1), (2, .ref 10), (3, .ref 17)] [] h
  unfold f_X1_droppedUpper at hf
  refine go_lconst hC dX1_droppedUpper_0 (v := 0) rfl ?_
  refine go_lstore hC dX1_droppedUpper_1 (Nat.le_of_ble_eq_true rfl) rfl ?_
  refine go_iconst hC dX1_droppedUpper_3 k1_0 ?_
  refine go_istore hC dX1_droppedUpper_4 (Nat.le_of_ble_eq_true rfl) rfl ?_
  obtain ⟨s_11, hl, hf⟩ := bd_e1 hf
  refine go_sub [2, 3, 4, 5, 1, 0] rfl ?_
  refine lw_X1_droppedUpper_6_X7 hC a n o x1 h _ 0 0 s_11 hl ho ha ?_
  refine go_lload hC dX1_droppedUpper_41 0 rfl ?_
  obtain rfl := so_1 hf
  exact hret _ _ dX1_droppedUpper_43
set_option maxRecDepth 100000 in
set_option maxHeartbeats 4000000 in
theorem lw_X1_droppedUpper_6_X9 {C : GC} (hC : Cx C cX1_droppedUpper 7 wsX1_droppedUpper RX1 (some .long) (rm_d 5)) (a n o : Nat) (x1 : Int32) (h : PH) : ∀ (n9 : Nat) (x4 : Int64) (x6 : Int32) (y : Int64 × Int32), lp_f (fun s => lb_X1_droppedUpper_6 9 a n o x1 h s.1 s.2) n9 (x4, x6) = some y → (l0_B ++ h.2.2.2)[o]? = some (.inr (9, [(0, 0), (0, 0), (2, a)])) → (l0_B ++ h.2.2.2)[a]? = some (.inl (0, n)) → ∀ (hk : Go l0_B C 0 0 41 [(4, .long y.1)] [] h), Go l0_B C 0 0 6 [(0, .ref o), (1, .int x1), (2, .ref 10), (3, .ref 17), (4, .long x4), (6, .int x6)] [] h := by

  intro n9
  induction n9 with
  | zero =>
    intro x4 x6 y hlp
    cases hlp
  | succ n9 ih =>
    intro x4 x6 y hlp ho ha hk
    obtain ⟨k9, z, hk9, hf, hy⟩ := lp_e hlp
    cases hk9
    replace hf : lb_X1_droppedUpper_6 9 a n o x1 h x4 x6 = some z := hf
    unfold lb_X1_droppedUpper_6 at hf
    refine go_iload hC dX1_droppedUpper_6 5 rfl ?_
    refine go_iload_n hC dX1_droppedUpper_8 rfl 1 rfl ?_
    refine go_icmp_gt hC dX1_droppedUpper_9 (tgt := 41) (by decide) (fun c_10 => ?_) (fun c_10 => ?_)
    · replace hf := if_t c_10 hf
      obtain rfl := so_1 hf
      obtain rfl := lp_x hy
      refine go_sub [4] rfl ?_
      exact hk
    · replace hf := if_f c_10 hf
      refine go_lload hC dX1_droppedUpper_12 4 rfl ?_
      refine go_aload_n hC dX1_droppedUpper_14 rfl 0 rfl ?_
      refine go_iload hC dX1_droppedUpper_15 5 rfl ?_
      refine go_aload_n hC dX1_droppedUpper_17 rfl 2 rfl ?_
      refine go_aload_n hC dX1_droppedUpper_18 rfl 3 rfl ?_
      obtain ⟨r_6, hc, hf⟩ := bd_e1 hf
      refine go_callU hC (c_X1_yardsOf_X9 a n o x6 h r_6 ho ha hc) gX1_droppedUpper_X1_yardsOf_u30X9 rfl ⟨rfl, rfl⟩ rfl 3 (by decide +kernel) ⟨Nat.le_of_ble_eq_true rfl, Nat.le_of_ble_eq_true rfl⟩ ho rfl rfl (st := [.long x4]) (st1 := [.int r_6, .long x4]) rfl rfl (Nat.le_of_ble_eq_true rfl) ⟨Nat.zero_le _, Nat.zero_le _⟩ dX1_droppedUpper_19 ?_
      refine go_i2l hC dX1_droppedUpper_22 ?_
      refine go_aload_n hC dX1_droppedUpper_23 rfl 0 rfl ?_
      refine go_iload hC dX1_droppedUpper_24 5 rfl ?_
      refine go_aload_n hC dX1_droppedUpper_26 rfl 2 rfl ?_
      refine go_aload_n hC dX1_droppedUpper_27 rfl 3 rfl ?_
      obtain ⟨r_7, hc, hf⟩ := bd_e1 hf
      refine go_callU hC (c_X1_carriedUpper_X9 a n o x6 h r_7 ho ha hc) gX1_droppedUpper_X1_carriedUpper_u51X9 rfl ⟨rfl, rfl⟩ rfl 3 (by decide +kernel) ⟨Nat.le_of_ble_eq_true rfl, Nat.le_of_ble_eq_true rfl⟩ ho rfl rfl (st := [.long r_6.toInt64, .long x4]) (st1 := [.long r_7, .long r_6.toInt64, .long x4]) rfl rfl (Nat.le_of_ble_eq_true rfl) ⟨Nat.zero_le _, Nat.zero_le _⟩ dX1_droppedUpper_28 ?_
      refine go_lmul hC dX1_droppedUpper_31 ?_
      refine go_ladd hC dX1_droppedUpper_32 ?_
      obtain ⟨x4_8, ex4_8, hf⟩ := lt_e hf
      refine go_topl ex4_8 ?_
      refine go_lstore hC dX1_droppedUpper_33 (Nat.le_of_ble_eq_true rfl) rfl ?_
      obtain ⟨x6_9, ex6_9, hf⟩ := lt_e hf
      refine go_iinc hC dX1_droppedUpper_35 5 rfl k1_1 ex6_9 (Nat.le_of_ble_eq_true rfl) rfl ?_
      refine go_goto hC dX1_droppedUpper_38 (tgt := 6) (by decide) ?_
      obtain rfl := so_1 hf
      refine go_sub [2, 3, 4, 5, 1, 0] rfl ?_
      exact ih x4_8 x6_9 _ (lp_c hy) ho ha hk
set_option maxRecDepth 100000 in
set_option maxHeartbeats 4000000 in
theorem c_X1_droppedUpper_X9 (a n o : Nat) (x1 : Int32) (h : PH) (r : Int64) (ho : (l0_B ++ h.2.2.2)[o]? = some (.inr (9, [(0, 0), (0, 0), (2, a)]))) (ha : (l0_B ++ h.2.2.2)[a]? = some (.inl (0, n))) (hf : f_X1_droppedUpper 9 a n o x1 h = some r) : Con yX1_droppedUpper wsX1_droppedUpper (rm_d 5) l0_B [.ref o, .int x1, .ref 10, .ref 17] h (some (.long r)) h := by

  refine con_l (cc := cX1_droppedUpper) (nL := 7) (by decide) rfl (Nat.le_of_ble_eq_true rfl) ?_
  intro C hC hret
  change Go l0_B C 0 0 0 [(0, .ref o), (1, .int x1), (2, .ref 10), (3, .ref 17)] [] h
  unfold f_X1_droppedUpper at hf
  refine go_lconst hC dX1_droppedUpper_0 (v := 0) rfl ?_
  refine go_lstore hC dX1_droppedUpper_1 (Nat.le_of_ble_eq_true rfl) rfl ?_
  refine go_iconst hC dX1_droppedUpper_3 k1_0 ?_
  refine go_istore hC dX1_droppedUpper_4 (Nat.le_of_ble_eq_true rfl) rfl ?_
  obtain ⟨s_11, hl, hf⟩ := bd_e1 hf
  refine go_sub [2, 3, 4, 5, 1, 0] rfl ?_
  refine lw_X1_droppedUpper_6_X9 hC a n o x1 h _ 0 0 s_11 hl ho ha ?_
  refine go_lload hC dX1_droppedUpper_41 0 rfl ?_
  obtain rfl := so_1 hf
  exact hret _ _ dX1_droppedUpper_43
def lb_X1_firstOverFuse_16 (ci a n o : Nat) (x3 : Int64) (h : PH) (x5 : Int32) : Option ((Int32) ⊕ ((Int32) ⊕ (Int32))) :=
  bd_1 (vd_pieces ci a n o h) fun r_8 =>
  if r_8 ≤ x5 then (
  some (.inr (.inr x5)))
  else (
  bd_1 (f_X1_carriedUpper ci a n o x5 h) fun r_9 =>
  if (lg_cmp (if 0 < r_9 then r_9 else -r_9) x3) ≤ 0 then (
  lt_b (x5 + 1) fun x5_10 =>
  some (.inl x5_10))
  else (
  some (.inr (.inl x5))))
def f_X1_firstOverFuse (ci a n o : Nat) (h : PH) : Option (Int32) :=
  bd_1 (vd_carriedLower ci a n o h) fun r_1 =>
  lt_b (((h.1 o 1).toInt64) * r_1) fun x3_2 =>
  bd_1 (lp_f (fun s => lb_X1_firstOverFuse_16 ci a n o x3_2 h s) fu_l 0) fun s_13 => sw_b s_13 (fun r_15 => some r_15) fun e_14 =>
  some (-9)
set_option maxRecDepth 100000 in
set_option maxHeartbeats 4000000 in
theorem lw_X1_firstOverFuse_16_X1 {C : GC} (hC : Cx C cX1_firstOverFuse 6 wsX1_firstOverFuse RX1 (some .int) (rm_d 5)) (a n o : Nat) (x3 : Int64) (h : PH) : ∀ (n9 : Nat) (x5 : Int32) (y : (Int32) ⊕ (Int32)), lp_f (fun s => lb_X1_firstOverFuse_16 1 a n o x3 h s) n9 x5 = some y → (l0_B ++ h.2.2.2)[o]? = some (.inr (1, [(0, 0), (0, 0), (2, a)])) → (l0_B ++ h.2.2.2)[a]? = some (.inl (0, n)) → ∀ (hk : match y with | .inl r => (∀ (pc : Nat) (L : List (Nat × Value)), narrow .int (.int r) = .int r → decode cX1_firstOverFuse pc = .ok (.ireturn, 1) → Go l0_B C 0 0 pc L [.int r] h) | .inr e => Go l0_B C 0 0 50 [] [] h), Go l0_B C 0 0 16 [(0, .ref o), (1, .ref 10), (2, .ref 17), (3, .long x3), (5, .int x5)] [] h := by
  have hn1 : ∀ w ∈ wsX10, w ∈ wsX1_firstOverFuse := (fun _ hw => (List.mem_cons_of_mem _ (List.mem_append_left _ (List.mem_append_left _ (List.mem_append_left _ (List.mem_append_left _ (List.mem_append_right _ hw)))))))
  intro n9
  induction n9 with
  | zero =>
    intro x5 y hlp
    cases hlp
  | succ n9 ih =>
    intro x5 y hlp ho ha hk
    obtain ⟨k9, z, hk9, hf, hy⟩ := lp_e hlp
    cases hk9
    replace hf : lb_X1_firstOverFuse_16 1 a n o x3 h x5 = some z := hf
    unfold lb_X1_firstOverFuse_16 at hf
    refine go_iload hC dX1_firstOverFuse_16 4 rfl ?_
    refine go_aload_n hC dX1_firstOverFuse_18 rfl 0 rfl ?_
    obtain ⟨r_8, hc, hf⟩ := bd_e1 hf
    refine go_callV hC (c_X1_pieces_X1 a n o h r_8 ho ha hc) gX1_firstOverFuse_X1_pieces rfl ⟨rfl, rfl⟩ 0 e_X1_pieces ⟨Nat.le_of_ble_eq_true rfl, Nat.le_of_ble_eq_true rfl⟩ ho rfl rfl (st := [.int x5]) (st1 := [.int r_8, .int x5]) rfl rfl (Nat.le_of_ble_eq_true rfl) ⟨Nat.zero_le _, Nat.zero_le _⟩ dX1_firstOverFuse_19 ?_
    refine go_icmp_ge hC dX1_firstOverFuse_22 (tgt := 50) (by decide) (fun c_12 => ?_) (fun c_12 => ?_)
    · replace hf := if_t c_12 hf
      obtain rfl := so_1 hf
      obtain rfl := lp_x hy
      refine go_sub [] rfl ?_
      exact hk
    · replace hf := if_f c_12 hf
      refine go_aload_n hC dX1_firstOverFuse_25 rfl 0 rfl ?_
      refine go_iload hC dX1_firstOverFuse_26 4 rfl ?_
      refine go_aload_n hC dX1_firstOverFuse_28 rfl 1 rfl ?_
      refine go_aload_n hC dX1_firstOverFuse_29 rfl 2 rfl ?_
      obtain ⟨r_9, hc, hf⟩ := bd_e1 hf
      refine go_callV hC (c_X1_carriedUpper_X1 a n o x5 h r_9 ho ha hc) gX1_firstOverFuse_X1_carriedUpper rfl ⟨rfl, rfl⟩ 3 e_X1_carriedUpper ⟨Nat.le_of_ble_eq_true rfl, Nat.le_of_ble_eq_true rfl⟩ ho rfl rfl (st := []) (st1 := [.long r_9]) rfl rfl (Nat.le_of_ble_eq_true rfl) ⟨Nat.zero_le _, Nat.zero_le _⟩ dX1_firstOverFuse_30 ?_
      refine go_absl hC (List.mem_cons_of_mem _ (List.mem_append_left _ (List.mem_append_left _ (List.mem_append_left _ (List.mem_append_left _ (List.mem_append_left _ (List.mem_append_left _ (List.mem_of_getElem? (i := 1) rfl)))))))) (List.mem_cons_of_mem _ (List.mem_append_left _ (List.mem_append_left _ (List.mem_append_left _ (List.mem_append_left _ (List.mem_append_left _ (List.mem_append_left _ (List.mem_of_getElem? (i := 2) rfl)))))))) (List.mem_cons_of_mem _ (List.mem_append_left _ (List.mem_append_left _ (List.mem_append_left _ (List.mem_append_left _ (List.mem_append_left _ (List.mem_append_left _ (List.mem_of_getElem? (i := 3) rfl)))))))) (List.mem_cons_of_mem _ (List.mem_append_left _ (List.mem_append_left _ (List.mem_append_left _ (List.mem_append_left _ (List.mem_append_left _ (List.mem_append_left _ (List.mem_of_getElem? (i := 4) rfl)))))))) ⟨Nat.le_of_ble_eq_true rfl, Nat.le_of_ble_eq_true rfl⟩ ⟨Nat.zero_le _, Nat.zero_le _⟩ dX1_firstOverFuse_33 ?_
      refine go_lload_n hC dX1_firstOverFuse_36 rfl 3 rfl ?_
      refine go_lcmp hC dX1_firstOverFuse_37 ?_
      refine go_if_le hC dX1_firstOverFuse_38 (tgt := 44) (by decide) (fun c_11 => ?_) (fun c_11 => ?_)
      · replace hf := if_t c_11 hf
        obtain ⟨x5_10, ex5_10, hf⟩ := lt_e hf
        refine go_iinc hC dX1_firstOverFuse_44 4 rfl k1_1 ex5_10 (Nat.le_of_ble_eq_true rfl) rfl ?_
        refine go_goto hC dX1_firstOverFuse_47 (tgt := 16) (by decide) ?_
        obtain rfl := so_1 hf
        refine go_sub [1, 2, 3, 4, 0] rfl ?_
        exact ih x5_10 _ (lp_c hy) ho ha hk
      · replace hf := if_f c_11 hf
        refine go_iload hC dX1_firstOverFuse_41 4 rfl ?_
        obtain rfl := so_1 hf
        obtain rfl := lp_x hy
        exact hk _ _ rfl dX1_firstOverFuse_43
theorem e_X1_firstOverFuse : yX1_firstOverFuse.cls = RX1 ∧ yX1_firstOverFuse.cls ≠ "java/lang/invoke/MethodHandle" ∧ yX1_firstOverFuse.cls ≠ "java/lang/invoke/VarHandle" ∧ (parseMethodDescriptor yX1_firstOverFuse.desc).map (fun d => d.parameters.length) = some 2 := by decide +kernel
set_option maxRecDepth 100000 in
set_option maxHeartbeats 4000000 in
theorem c_X1_firstOverFuse_X1 (a n o : Nat) (h : PH) (r : Int32) (ho : (l0_B ++ h.2.2.2)[o]? = some (.inr (1, [(0, 0), (0, 0), (2, a)]))) (ha : (l0_B ++ h.2.2.2)[a]? = some (.inl (0, n))) (hf : f_X1_firstOverFuse 1 a n o h = some r) : Con yX1_firstOverFuse wsX1_firstOverFuse (rm_d 5) l0_B [.ref o, .ref 10, .ref 17] h (some (.int r)) h := by
  have hn1 : ∀ w ∈ wsX10, w ∈ wsX1_firstOverFuse := (fun _ hw => (List.mem_cons_of_mem _ (List.mem_append_left _ (List.mem_append_left _ (List.mem_append_left _ (List.mem_append_left _ (List.mem_append_right _ hw)))))))
  refine con_i (ty := .int) (cc := cX1_firstOverFuse) (nL := 6) (by decide) rfl (Nat.le_of_ble_eq_true rfl) ?_
  intro C hC hret
  change Go l0_B C 0 0 0 [(0, .ref o), (1, .ref 10), (2, .ref 17)] [] h
  unfold f_X1_firstOverFuse at hf
  refine go_aload_n hC dX1_firstOverFuse_0 rfl 0 rfl ?_
  refine go_geti hC (j := 1) (idx := 15) (nm := "fuse") (ds := "I") ho rfl rfl hn1 (Nat.le_of_ble_eq_true rfl) rfl rfl (List.mem_cons_of_mem _ (List.mem_append_left _ (List.mem_append_left _ (List.mem_append_left _ (List.mem_append_left _ (List.mem_append_left _ (List.mem_append_left _ (List.mem_of_getElem? (i := 0) rfl)))))))) (Or.inl rfl) dX1_firstOverFuse_1 ?_
  refine go_i2l hC dX1_firstOverFuse_4 ?_
  refine go_aload_n hC dX1_firstOverFuse_5 rfl 0 rfl ?_
  refine go_aload_n hC dX1_firstOverFuse_6 rfl 1 rfl ?_
  refine go_aload_n hC dX1_firstOverFuse_7 rfl 2 rfl ?_
  obtain ⟨r_1, hc, hf⟩ := bd_e1 hf
  refine go_callV hC (c_X1_carriedLower_X1 a n o h r_1 ho ha hc) gX1_firstOverFuse_X1_carriedLower rfl ⟨rfl, rfl⟩ 2 e_X1_carriedLower ⟨Nat.le_of_ble_eq_true rfl, Nat.le_of_ble_eq_true rfl⟩ ho rfl rfl (st := [.long ((h.1 o 1).toInt64)]) (st1 := [.long r_1, .long ((h.1 o 1).toInt64)]) rfl rfl (Nat.le_of_ble_eq_true rfl) ⟨Nat.zero_le _, Nat.zero_le _⟩ dX1_firstOverFuse_8 ?_
  refine go_lmul hC dX1_firstOverFuse_11 ?_
  obtain ⟨x3_2, ex3_2, hf⟩ := lt_e hf
  refine go_topl ex3_2 ?_
  refine go_lstore_n hC dX1_firstOverFuse_12 rfl (Nat.le_of_ble_eq_true rfl) rfl ?_
  refine go_iconst hC dX1_firstOverFuse_13 k1_0 ?_
  refine go_istore hC dX1_firstOverFuse_14 (Nat.le_of_ble_eq_true rfl) rfl ?_
  obtain ⟨s_13, hl, hf⟩ := bd_e1 hf
  refine go_sub [2, 3, 4, 1, 0] rfl ?_
  refine lw_X1_firstOverFuse_16_X1 hC a n o x3_2 h _ 0 s_13 hl ho ha ?_
  rcases s_13 with r_15 | e_14
  · replace hf : some r_15 = some _ := hf
    cases hf
    exact hret
  · replace hf := sw_r hf
    refine go_bipush hC dX1_firstOverFuse_50 k8_m9 ?_
    obtain rfl := so_1 hf
    exact hret _ _ rfl dX1_firstOverFuse_52
set_option maxRecDepth 100000 in
set_option maxHeartbeats 4000000 in
theorem lw_X1_firstOverFuse_16_X7 {C : GC} (hC : Cx C cX1_firstOverFuse 6 wsX1_firstOverFuse RX1 (some .int) (rm_d 5)) (a n o : Nat) (x3 : Int64) (h : PH) : ∀ (n9 : Nat) (x5 : Int32) (y : (Int32) ⊕ (Int32)), lp_f (fun s => lb_X1_firstOverFuse_16 7 a n o x3 h s) n9 x5 = some y → (l0_B ++ h.2.2.2)[o]? = some (.inr (7, [(0, 0), (0, 0), (2, a)])) → (l0_B ++ h.2.2.2)[a]? = some (.inl (0, n)) → ∀ (hk : match y with | .inl r => (∀ (pc : Nat) (L : List (Nat × Value)), narrow .int (.int r) = .int r → decode cX1_firstOverFuse pc = .ok (.ireturn, 1) → Go l0_B C 0 0 pc L [.int r] h) | .inr e => Go l0_B C 0 0 50 [] [] h), Go l0_B C 0 0 16 [(0, .ref o), (1, .ref 10), (2, .ref 17), (3, .long x3), (5, .int x5)] [] h := by
  have hn7 : ∀ w ∈ wsX70, w ∈ wsX1_firstOverFuse := (fun _ hw => (List.mem_cons_of_mem _ (List.mem_append_left _ (List.mem_append_left _ (List.mem_append_left _ (List.mem_append_right _ hw))))))
  intro n9
  induction n9 with
  | zero =>
    intro x5 y hlp
    cases hlp
  | succ n9 ih =>
    intro x5 y hlp ho ha hk
    obtain ⟨k9, z, hk9, hf, hy⟩ := lp_e hlp
    cases hk9
    replace hf : lb_X1_firstOverFuse_16 7 a n o x3 h x5 = some z := hf
    unfold lb_X1_firstOverFuse_16 at hf
    refine go_iload hC dX1_firstOverFuse_16 4 rfl ?_
    refine go_aload_n hC dX1_firstOverFuse_18 rfl 0 rfl ?_
    obtain ⟨r_8, hc, hf⟩ := bd_e1 hf
    refine go_callO hC (c_X7_pieces_X7 a n o h r_8 ho ha hc) gX1_firstOverFuse_X7_pieces_u26X7 rfl ⟨rfl, rfl⟩ (List.mem_cons_of_mem _ (List.mem_append_left _ (List.mem_append_left _ (List.mem_append_left _ (List.mem_append_left _ (List.mem_append_left _ (List.mem_append_right _ (List.mem_append_left _ (List.mem_of_getElem? (i := 1) rfl))))))))) 0 (by decide +kernel) ⟨Nat.le_of_ble_eq_true rfl, Nat.le_of_ble_eq_true rfl⟩ ho rfl rfl (st := [.int x5]) (st1 := [.int r_8, .int x5]) rfl rfl (Nat.le_of_ble_eq_true rfl) ⟨Nat.zero_le _, Nat.zero_le _⟩ dX1_firstOverFuse_19 ?_
    refine go_icmp_ge hC dX1_firstOverFuse_22 (tgt := 50) (by decide) (fun c_12 => ?_) (fun c_12 => ?_)
    · replace hf := if_t c_12 hf
      obtain rfl := so_1 hf
      obtain rfl := lp_x hy
      refine go_sub [] rfl ?_
      exact hk
    · replace hf := if_f c_12 hf
      refine go_aload_n hC dX1_firstOverFuse_25 rfl 0 rfl ?_
      refine go_iload hC dX1_firstOverFuse_26 4 rfl ?_
      refine go_aload_n hC dX1_firstOverFuse_28 rfl 1 rfl ?_
      refine go_aload_n hC dX1_firstOverFuse_29 rfl 2 rfl ?_
      obtain ⟨r_9, hc, hf⟩ := bd_e1 hf
      refine go_callU hC (c_X1_carriedUpper_X7 a n o x5 h r_9 ho ha hc) gX1_firstOverFuse_X1_carriedUpper_u51X7 rfl ⟨rfl, rfl⟩ rfl 3 (by decide +kernel) ⟨Nat.le_of_ble_eq_true rfl, Nat.le_of_ble_eq_true rfl⟩ ho rfl rfl (st := []) (st1 := [.long r_9]) rfl rfl (Nat.le_of_ble_eq_true rfl) ⟨Nat.zero_le _, Nat.zero_le _⟩ dX1_firstOverFuse_30 ?_
      refine go_absl hC (List.mem_cons_of_mem _ (List.mem_append_left _ (List.mem_append_left _ (List.mem_append_left _ (List.mem_append_left _ (List.mem_append_left _ (List.mem_append_left _ (List.mem_of_getElem? (i := 1) rfl)))))))) (List.mem_cons_of_mem _ (List.mem_append_left _ (List.mem_append_left _ (List.mem_append_left _ (List.mem_append_left _ (List.mem_append_left _ (List.mem_append_left _ (List.mem_of_getElem? (i := 2) rfl)))))))) (List.mem_cons_of_mem _ (List.mem_append_left _ (List.mem_append_left _ (List.mem_append_left _ (List.mem_append_left _ (List.mem_append_left _ (List.mem_append_left _ (List.mem_of_getElem? (i := 3) rfl)))))))) (List.mem_cons_of_mem _ (List.mem_append_left _ (List.mem_append_left _ (List.mem_append_left _ (List.mem_append_left _ (List.mem_append_left _ (List.mem_append_left _ (List.mem_of_getElem? (i := 4) rfl)))))))) ⟨Nat.le_of_ble_eq_true rfl, Nat.le_of_ble_eq_true rfl⟩ ⟨Nat.zero_le _, Nat.zero_le _⟩ dX1_firstOverFuse_33 ?_
      refine go_lload_n hC dX1_firstOverFuse_36 rfl 3 rfl ?_
      refine go_lcmp hC dX1_firstOverFuse_37 ?_
      refine go_if_le hC dX1_firstOverFuse_38 (tgt := 44) (by decide) (fun c_11 => ?_) (fun c_11 => ?_)
      · replace hf := if_t c_11 hf
        obtain ⟨x5_10, ex5_10, hf⟩ := lt_e hf
        refine go_iinc hC dX1_firstOverFuse_44 4 rfl k1_1 ex5_10 (Nat.le_of_ble_eq_true rfl) rfl ?_
        refine go_goto hC dX1_firstOverFuse_47 (tgt := 16) (by decide) ?_
        obtain rfl := so_1 hf
        refine go_sub [1, 2, 3, 4, 0] rfl ?_
        exact ih x5_10 _ (lp_c hy) ho ha hk
      · replace hf := if_f c_11 hf
        refine go_iload hC dX1_firstOverFuse_41 4 rfl ?_
        obtain rfl := so_1 hf
        obtain rfl := lp_x hy
        exact hk _ _ rfl dX1_firstOverFuse_43
set_option maxRecDepth 100000 in
set_option maxHeartbeats 4000000 in
theorem c_X1_firstOverFuse_X7 (a n o : Nat) (h : PH) (r : Int32) (ho : (l0_B ++ h.2.2.2)[o]? = some (.inr (7, [(0, 0), (0, 0), (2, a)]))) (ha : (l0_B ++ h.2.2.2)[a]? = some (.inl (0, n))) (hf : f_X1_firstOverFuse 7 a n o h = some r) : Con yX1_firstOverFuse wsX1_firstOverFuse (rm_d 5) l0_B [.ref o, .ref 10, .ref 17] h (some (.int r)) h := by
  have hn7 : ∀ w ∈ wsX70, w ∈ wsX1_firstOverFuse := (fun _ hw => (List.mem_cons_of_mem _ (List.mem_append_left _ (List.mem_append_left _ (List.mem_append_left _ (List.mem_append_right _ hw))))))
  refine con_i (ty := .int) (cc := cX1_firstOverFuse) (nL := 6) (by decide) rfl (Nat.le_of_ble_eq_true rfl) ?_
  intro C hC hret
  change Go l0_B C 0 0 0 [(0, .ref o), (1, .ref 10), (2, .ref 17)] [] h
  unfold f_X1_firstOverFuse at hf
  refine go_aload_n hC dX1_firstOverFuse_0 rfl 0 rfl ?_
  refine go_geti hC (j := 1) (idx := 15) (nm := "fuse") (ds := "I") ho rfl rfl hn7 (Nat.le_of_ble_eq_true rfl) rfl rfl (List.mem_cons_of_mem _ (List.mem_append_left _ (List.mem_append_left _ (List.mem_append_left _ (List.mem_append_left _ (List.mem_append_left _ (List.mem_append_left _ (List.mem_of_getElem? (i := 0) rfl)))))))) (Or.inl rfl) dX1_firstOverFuse_1 ?_
  refine go_i2l hC dX1_firstOverFuse_4 ?_
  refine go_aload_n hC dX1_firstOverFuse_5 rfl 0 rfl ?_
  refine go_aload_n hC dX1_firstOverFuse_6 rfl 1 rfl ?_
  refine go_aload_n hC dX1_firstOverFuse_7 rfl 2 rfl ?_
  obtain ⟨r_1, hc, hf⟩ := bd_e1 hf
  refine go_callO hC (c_X7_carriedLower_X7 a n o h r_1 ho ha hc) gX1_firstOverFuse_X7_carriedLower_u48X7 rfl ⟨rfl, rfl⟩ (List.mem_cons_of_mem _ (List.mem_append_left _ (List.mem_append_left _ (List.mem_append_left _ (List.mem_append_left _ (List.mem_append_left _ (List.mem_append_left _ (List.mem_of_getElem? (i := 9) rfl)))))))) 2 (by decide +kernel) ⟨Nat.le_of_ble_eq_true rfl, Nat.le_of_ble_eq_true rfl⟩ ho rfl rfl (st := [.long ((h.1 o 1).toInt64)]) (st1 := [.long r_1, .long ((h.1 o 1).toInt64)]) rfl rfl (Nat.le_of_ble_eq_true rfl) ⟨Nat.zero_le _, Nat.zero_le _⟩ dX1_firstOverFuse_8 ?_
  refine go_lmul hC dX1_firstOverFuse_11 ?_
  obtain ⟨x3_2, ex3_2, hf⟩ := lt_e hf
  refine go_topl ex3_2 ?_
  refine go_lstore_n hC dX1_firstOverFuse_12 rfl (Nat.le_of_ble_eq_true rfl) rfl ?_
  refine go_iconst hC dX1_firstOverFuse_13 k1_0 ?_
  refine go_istore hC dX1_firstOverFuse_14 (Nat.le_of_ble_eq_true rfl) rfl ?_
  obtain ⟨s_13, hl, hf⟩ := bd_e1 hf
  refine go_sub [2, 3, 4, 1, 0] rfl ?_
  refine lw_X1_firstOverFuse_16_X7 hC a n o x3_2 h _ 0 s_13 hl ho ha ?_
  rcases s_13 with r_15 | e_14
  · replace hf : some r_15 = some _ := hf
    cases hf
    exact hret
  · replace hf := sw_r hf
    refine go_bipush hC dX1_firstOverFuse_50 k8_m9 ?_
    obtain rfl := so_1 hf
    exact hret _ _ rfl dX1_firstOverFuse_52
set_option maxRecDepth 100000 in
set_option maxHeartbeats 4000000 in
theorem lw_X1_firstOverFuse_16_X9 {C : GC} (hC : Cx C cX1_firstOverFuse 6 wsX1_firstOverFuse RX1 (some .int) (rm_d 5)) (a n o : Nat) (x3 : Int64) (h : PH) : ∀ (n9 : Nat) (x5 : Int32) (y : (Int32) ⊕ (Int32)), lp_f (fun s => lb_X1_firstOverFuse_16 9 a n o x3 h s) n9 x5 = some y → (l0_B ++ h.2.2.2)[o]? = some (.inr (9, [(0, 0), (0, 0), (2, a)])) → (l0_B ++ h.2.2.2)[a]? = some (.inl (0, n)) → ∀ (hk : match y with | .inl r => (∀ (pc : Nat) (L : List (Nat × Value)), narrow .int (.int r) = .int r → decode cX1_firstOverFuse pc = .ok (.ireturn, 1) → Go l0_B C 0 0 pc L [.int r] h) | .inr e => Go l0_B C 0 0 50 [] [] h), Go l0_B C 0 0 16 [(0, .ref o), (1, .ref 10), (2, .ref 17), (3, .long x3), (5, .int x5)] [] h := by
  have hn9 : ∀ w ∈ wsX90, w ∈ wsX1_firstOverFuse := (fun _ hw => (List.mem_cons_of_mem _ (List.mem_append_left _ (List.mem_append_left _ (List.mem_append_right _ hw)))))
  intro n9
  induction n9 with
  | zero =>
    intro x5 y hlp
    cases hlp
  | succ n9 ih =>
    intro x5 y hlp ho ha hk
    obtain ⟨k9, z, hk9, hf, hy⟩ := lp_e hlp
    cases hk9
    replace hf : lb_X1_firstOverFuse_16 9 a n o x3 h x5 = some z := hf
    unfold lb_X1_firstOverFuse_16 at hf
    refine go_iload hC dX1_firstOverFuse_16 4 rfl ?_
    refine go_aload_n hC dX1_firstOverFuse_18 rfl 0 rfl ?_
    obtain ⟨r_8, hc, hf⟩ := bd_e1 hf
    refine go_callO hC (c_X7_pieces_X9 a n o h r_8 ho ha hc) gX1_firstOverFuse_X7_pieces_u26X9 rfl ⟨rfl, rfl⟩ (List.mem_cons_of_mem _ (List.mem_append_left _ (List.mem_append_left _ (List.mem_append_left _ (List.mem_append_left _ (List.mem_append_left _ (List.mem_append_right _ (List.mem_append_left _ (List.mem_of_getElem? (i := 1) rfl))))))))) 0 (by decide +kernel) ⟨Nat.le_of_ble_eq_true rfl, Nat.le_of_ble_eq_true rfl⟩ ho rfl rfl (st := [.int x5]) (st1 := [.int r_8, .int x5]) rfl rfl (Nat.le_of_ble_eq_true rfl) ⟨Nat.zero_le _, Nat.zero_le _⟩ dX1_firstOverFuse_19 ?_
    refine go_icmp_ge hC dX1_firstOverFuse_22 (tgt := 50) (by decide) (fun c_12 => ?_) (fun c_12 => ?_)
    · replace hf := if_t c_12 hf
      obtain rfl := so_1 hf
      obtain rfl := lp_x hy
      refine go_sub [] rfl ?_
      exact hk
    · replace hf := if_f c_12 hf
      refine go_aload_n hC dX1_firstOverFuse_25 rfl 0 rfl ?_
      refine go_iload hC dX1_firstOverFuse_26 4 rfl ?_
      refine go_aload_n hC dX1_firstOverFuse_28 rfl 1 rfl ?_
      refine go_aload_n hC dX1_firstOverFuse_29 rfl 2 rfl ?_
      obtain ⟨r_9, hc, hf⟩ := bd_e1 hf
      refine go_callU hC (c_X1_carriedUpper_X9 a n o x5 h r_9 ho ha hc) gX1_firstOverFuse_X1_carriedUpper_u51X9 rfl ⟨rfl, rfl⟩ rfl 3 (by decide +kernel) ⟨Nat.le_of_ble_eq_true rfl, Nat.le_of_ble_eq_true rfl⟩ ho rfl rfl (st := []) (st1 := [.long r_9]) rfl rfl (Nat.le_of_ble_eq_true rfl) ⟨Nat.zero_le _, Nat.zero_le _⟩ dX1_firstOverFuse_30 ?_
      refine go_absl hC (List.mem_cons_of_mem _ (List.mem_append_left _ (List.mem_append_left _ (List.mem_append_left _ (List.mem_append_left _ (List.mem_append_left _ (List.mem_append_left _ (List.mem_of_getElem? (i := 1) rfl)))))))) (List.mem_cons_of_mem _ (List.mem_append_left _ (List.mem_append_left _ (List.mem_append_left _ (List.mem_append_left _ (List.mem_append_left _ (List.mem_append_left _ (List.mem_of_getElem? (i := 2) rfl)))))))) (List.mem_cons_of_mem _ (List.mem_append_left _ (List.mem_append_left _ (List.mem_append_left _ (List.mem_append_left _ (List.mem_append_left _ (List.mem_append_left _ (List.mem_of_getElem? (i := 3) rfl)))))))) (List.mem_cons_of_mem _ (List.mem_append_left _ (List.mem_append_left _ (List.mem_append_left _ (List.mem_append_left _ (List.mem_append_left _ (List.mem_append_left _ (List.mem_of_getElem? (i := 4) rfl)))))))) ⟨Nat.le_of_ble_eq_true rfl, Nat.le_of_ble_eq_true rfl⟩ ⟨Nat.zero_le _, Nat.zero_le _⟩ dX1_firstOverFuse_33 ?_
      refine go_lload_n hC dX1_firstOverFuse_36 rfl 3 rfl ?_
      refine go_lcmp hC dX1_firstOverFuse_37 ?_
      refine go_if_le hC dX1_firstOverFuse_38 (tgt := 44) (by decide) (fun c_11 => ?_) (fun c_11 => ?_)
      · replace hf := if_t c_11 hf
        obtain ⟨x5_10, ex5_10, hf⟩ := lt_e hf
        refine go_iinc hC dX1_firstOverFuse_44 4 rfl k1_1 ex5_10 (Nat.le_of_ble_eq_true rfl) rfl ?_
        refine go_goto hC dX1_firstOverFuse_47 (tgt := 16) (by decide) ?_
        obtain rfl := so_1 hf
        refine go_sub [1, 2, 3, 4, 0] rfl ?_
        exact ih x5_10 _ (lp_c hy) ho ha hk
      · replace hf := if_f c_11 hf
        refine go_iload hC dX1_firstOverFuse_41 4 rfl ?_
        obtain rfl := so_1 hf
        obtain rfl := lp_x hy
        exact hk _ _ rfl dX1_firstOverFuse_43
set_option maxRecDepth 100000 in
set_option maxHeartbeats 4000000 in
theorem c_X1_firstOverFuse_X9 (a n o : Nat) (h : PH) (r : Int32) (ho : (l0_B ++ h.2.2.2)[o]? = some (.inr (9, [(0, 0), (0, 0), (2, a)]))) (ha : (l0_B ++ h.2.2.2)[a]? = some (.inl (0, n))) (hf : f_X1_firstOverFuse 9 a n o h = some r) : Con yX1_firstOverFuse wsX1_firstOverFuse (rm_d 5) l0_B [.ref o, .ref 10, .ref 17] h (some (.int r)) h := by
  have hn9 : ∀ w ∈ wsX90, w ∈ wsX1_firstOverFuse := (fun _ hw => (List.mem_cons_of_mem _ (List.mem_append_left _ (List.mem_append_left _ (List.mem_append_right _ hw)))))
  refine con_i (ty := .int) (cc := cX1_firstOverFuse) (nL := 6) (by decide) rfl (Nat.le_of_ble_eq_true rfl) ?_
  intro C hC hret
  change Go l0_B C 0 0 0 [(0, .ref o), (1, .ref 10), (2, .ref 17)] [] h
  unfold f_X1_firstOverFuse at hf
  refine go_aload_n hC dX1_firstOverFuse_0 rfl 0 rfl ?_
  refine go_geti hC (j := 1) (idx := 15) (nm := "fuse") (ds := "I") ho rfl rfl hn9 (Nat.le_of_ble_eq_true rfl) rfl rfl (List.mem_cons_of_mem _ (List.mem_append_left _ (List.mem_append_left _ (List.mem_append_left _ (List.mem_append_left _ (List.mem_append_left _ (List.mem_append_left _ (List.mem_of_getElem? (i := 0) rfl)))))))) (Or.inl rfl) dX1_firstOverFuse_1 ?_
  refine go_i2l hC dX1_firstOverFuse_4 ?_
  refine go_aload_n hC dX1_firstOverFuse_5 rfl 0 rfl ?_
  refine go_aload_n hC dX1_firstOverFuse_6 rfl 1 rfl ?_
  refine go_aload_n hC dX1_firstOverFuse_7 rfl 2 rfl ?_
  obtain ⟨r_1, hc, hf⟩ := bd_e1 hf
  refine go_callO hC (c_X7_carriedLower_X9 a n o h r_1 ho ha hc) gX1_firstOverFuse_X7_carriedLower_u48X9 rfl ⟨rfl, rfl⟩ (List.mem_cons_of_mem _ (List.mem_append_left _ (List.mem_append_left _ (List.mem_append_left _ (List.mem_append_left _ (List.mem_append_left _ (List.mem_append_left _ (List.mem_of_getElem? (i := 9) rfl)))))))) 2 (by decide +kernel) ⟨Nat.le_of_ble_eq_true rfl, Nat.le_of_ble_eq_true rfl⟩ ho rfl rfl (st := [.long ((h.1 o 1).toInt64)]) (st1 := [.long r_1, .long ((h.1 o 1).toInt64)]) rfl rfl (Nat.le_of_ble_eq_true rfl) ⟨Nat.zero_le _, Nat.zero_le _⟩ dX1_firstOverFuse_8 ?_
  refine go_lmul hC dX1_firstOverFuse_11 ?_
  obtain ⟨x3_2, ex3_2, hf⟩ := lt_e hf
  refine go_topl ex3_2 ?_
  refine go_lstore_n hC dX1_firstOverFuse_12 rfl (Nat.le_of_ble_eq_true rfl) rfl ?_
  refine go_iconst hC dX1_firstOverFuse_13 k1_0 ?_
  refine go_istore hC dX1_firstOverFuse_14 (Nat.le_of_ble_eq_true rfl) rfl ?_
  obtain ⟨s_13, hl, hf⟩ := bd_e1 hf
  refine go_sub [2, 3, 4, 1, 0] rfl ?_
  refine lw_X1_firstOverFuse_16_X9 hC a n o x3_2 h _ 0 s_13 hl ho ha ?_
  rcases s_13 with r_15 | e_14
  · replace hf : some r_15 = some _ := hf
    cases hf
    exact hret
  · replace hf := sw_r hf
    refine go_bipush hC dX1_firstOverFuse_50 k8_m9 ?_
    obtain rfl := so_1 hf
    exact hret _ _ rfl dX1_firstOverFuse_52
def f_X1_leave (x1 : Int32) (h : PH) : Option (Unit × PH) :=
  ga_i 0 1 (
  ga_i 0 1 (
  lt_b (ph_i h 42 (0 : Int32).toNatClampNeg ((31 * (h.1 42 (0 : Int32).toNatClampNeg)) + x1)) fun h_3 =>
  some ((), h_3)))
theorem e_X1_leave : yX1_leave.cls ≠ "java/lang/invoke/MethodHandle" ∧ yX1_leave.cls ≠ "java/lang/invoke/VarHandle" ∧ (parseMethodDescriptor yX1_leave.desc).map (fun d => d.parameters.length) = some 2 := by decide +kernel
set_option maxRecDepth 100000 in
set_option maxHeartbeats 4000000 in
theorem c_X1_leave (x1 : Int32) (h : PH) (h2 : PH) (hf : f_X1_leave x1 h = some ((), h2)) : Con yX1_leave wsX1_leave (rm_d 0) l0_B [.ref 42, .int x1] h none h2 := by

  refine con_v (cc := cX1_leave) (nL := 2) (by decide) rfl (Nat.le_of_ble_eq_true rfl) ?_
  intro C hC hret
  change Go l0_B C 0 0 0 [(0, .ref 42), (1, .int x1)] [] h
  unfold f_X1_leave at hf
  refine go_aload_n hC dX1_leave_0 rfl 0 rfl ?_
  refine go_iconst hC dX1_leave_1 k1_0 ?_
  refine go_bipush hC dX1_leave_2 k8_31 ?_
  refine go_aload_n hC dX1_leave_4 rfl 0 rfl ?_
  refine go_iconst hC dX1_leave_5 k1_0 ?_
  obtain ⟨g_1, hf⟩ := ga_e hf
  refine go_iald hC (b_42 _) g_1 dX1_leave_6 ?_
  refine go_imul hC dX1_leave_7 ?_
  refine go_iload_n hC dX1_leave_8 rfl 1 rfl ?_
  refine go_iadd hC dX1_leave_9 ?_
  obtain ⟨g_2, hf⟩ := ga_e hf
  obtain ⟨h_3, eh_3, hf⟩ := lt_e hf
  refine go_iast hC (b_42 _) g_2 dX1_leave_10 ?_
  refine go_toph eh_3 ?_
  obtain ⟨-, rfl⟩ := so_2 hf
  exact hret _ _ dX1_leave_11
def f_X1_tellingOfChain (ci a n o : Nat) (h : PH) : Option (Int32 × PH) :=
  bd_2 (f_X1_leave 1 h) fun r_1 h_2 =>
  gl_y h h_2 (
  gz_i (h_2.1 o 2) (
  some (Int32.ofNat n, h_2)))
theorem e_X1_tellingOfChain : yX1_tellingOfChain.cls = RX1 ∧ yX1_tellingOfChain.cls ≠ "java/lang/invoke/MethodHandle" ∧ yX1_tellingOfChain.cls ≠ "java/lang/invoke/VarHandle" ∧ (parseMethodDescriptor yX1_tellingOfChain.desc).map (fun d => d.parameters.length) = some 1 := by decide +kernel
set_option maxRecDepth 100000 in
set_option maxHeartbeats 4000000 in
theorem c_X1_tellingOfChain_X1 (a n o : Nat) (h : PH) (h2 : PH) (r : Int32) (ho : (l0_B ++ h.2.2.2)[o]? = some (.inr (1, [(0, 0), (0, 0), (2, a)]))) (ha : (l0_B ++ h.2.2.2)[a]? = some (.inl (0, n))) (hf : f_X1_tellingOfChain 1 a n o h = some (r, h2)) : Con yX1_tellingOfChain wsX1_tellingOfChain (rm_d 1) l0_B [.ref o, .ref 42] h (some (.int r)) h2 := by
  have hn1 : ∀ w ∈ wsX10, w ∈ wsX1_tellingOfChain := (fun _ hw => (List.mem_cons_of_mem _ (List.mem_append_left _ (List.mem_append_left _ (List.mem_append_right _ hw)))))
  refine con_i (ty := .int) (cc := cX1_tellingOfChain) (nL := 2) (by decide) rfl (Nat.le_of_ble_eq_true rfl) ?_
  intro C hC hret
  change Go l0_B C 0 0 0 [(0, .ref o), (1, .ref 42)] [] h
  unfold f_X1_tellingOfChain at hf
  refine go_aload_n hC dX1_tellingOfChain_0 rfl 1 rfl ?_
  refine go_iconst hC dX1_tellingOfChain_1 k1_1 ?_
  obtain ⟨r_1, h_2, hc, hf⟩ := bd_e2 hf
  refine go_callS hC (c_X1_leave 1 h h_2 hc) gX1_tellingOfChain_X1_leave rfl ⟨rfl, rfl⟩ 2 e_X1_leave ⟨Nat.le_of_ble_eq_true rfl, Nat.le_of_ble_eq_true rfl⟩ rfl (st := []) (st1 := []) rfl rfl (Nat.le_of_ble_eq_true rfl) ⟨Nat.zero_le _, Nat.zero_le _⟩ dX1_tellingOfChain_2 ?_
  obtain ⟨hl9, hf⟩ := gl_e hf
  replace ho : (l0_B ++ h_2.2.2.2)[o]? = some (.inr (1, [(0, 0), (0, 0), (2, a)])) := by rw [hl9]; exact ho
  replace ha : (l0_B ++ h_2.2.2.2)[a]? = some (.inl (0, n)) := by rw [hl9]; exact ha
  refine go_aload_n hC dX1_tellingOfChain_5 rfl 0 rfl ?_
  obtain ⟨g_3, hf⟩ := gz_e hf
  refine go_geto hC (j := 2) (idx := 18) (nm := "stops") (ds := "[I") ho rfl rfl hn1 (Nat.le_of_ble_eq_true rfl) rfl rfl (List.mem_cons_of_mem _ (List.mem_append_left _ (List.mem_append_left _ (List.mem_append_left _ (List.mem_of_getElem? (i := 0) rfl))))) (Or.inl rfl) g_3 dX1_tellingOfChain_6 ?_
  refine go_alen hC ha (Nat.le_of_ble_eq_true rfl) rfl dX1_tellingOfChain_9 ?_
  obtain ⟨rfl, rfl⟩ := so_2 hf
  exact hret _ _ rfl dX1_tellingOfChain_10
set_option maxRecDepth 100000 in
set_option maxHeartbeats 4000000 in
theorem c_X1_tellingOfChain_X7 (a n o : Nat) (h : PH) (h2 : PH) (r : Int32) (ho : (l0_B ++ h.2.2.2)[o]? = some (.inr (7, [(0, 0), (0, 0), (2, a)]))) (ha : (l0_B ++ h.2.2.2)[a]? = some (.inl (0, n))) (hf : f_X1_tellingOfChain 7 a n o h = some (r, h2)) : Con yX1_tellingOfChain wsX1_tellingOfChain (rm_d 1) l0_B [.ref o, .ref 42] h (some (.int r)) h2 := by
  have hn7 : ∀ w ∈ wsX70, w ∈ wsX1_tellingOfChain := (fun _ hw => (List.mem_cons_of_mem _ (List.mem_append_left _ (List.mem_append_right _ hw))))
  refine con_i (ty := .int) (cc := cX1_tellingOfChain) (nL := 2) (by decide) rfl (Nat.le_of_ble_eq_true rfl) ?_
  intro C hC hret
  change Go l0_B C 0 0 0 [(0, .ref o), (1, .ref 42)] [] h
  unfold f_X1_tellingOfChain at hf
  refine go_aload_n hC dX1_tellingOfChain_0 rfl 1 rfl ?_
  refine go_iconst hC dX1_tellingOfChain_1 k1_1 ?_
  obtain ⟨r_1, h_2, hc, hf⟩ := bd_e2 hf
  refine go_callS hC (c_X1_leave 1 h h_2 hc) gX1_tellingOfChain_X1_leave rfl ⟨rfl, rfl⟩ 2 e_X1_leave ⟨Nat.le_of_ble_eq_true rfl, Nat.le_of_ble_eq_true rfl⟩ rfl (st := []) (st1 := []) rfl rfl (Nat.le_of_ble_eq_true rfl) ⟨Nat.zero_le _, Nat.zero_le _⟩ dX1_tellingOfChain_2 ?_
  obtain ⟨hl9, hf⟩ := gl_e hf
  replace ho : (l0_B ++ h_2.2.2.2)[o]? = some (.inr (7, [(0, 0), (0, 0), (2, a)])) := by rw [hl9]; exact ho
  replace ha : (l0_B ++ h_2.2.2.2)[a]? = some (.inl (0, n)) := by rw [hl9]; exact ha
  refine go_aload_n hC dX1_tellingOfChain_5 rfl 0 rfl ?_
  obtain ⟨g_3, hf⟩ := gz_e hf
  refine go_geto hC (j := 2) (idx := 18) (nm := "stops") (ds := "[I") ho rfl rfl hn7 (Nat.le_of_ble_eq_true rfl) rfl rfl (List.mem_cons_of_mem _ (List.mem_append_left _ (List.mem_append_left _ (List.mem_append_left _ (List.mem_of_getElem? (i := 0) rfl))))) (Or.inl rfl) g_3 dX1_tellingOfChain_6 ?_
  refine go_alen hC ha (Nat.le_of_ble_eq_true rfl) rfl dX1_tellingOfChain_9 ?_
  obtain ⟨rfl, rfl⟩ := so_2 hf
  exact hret _ _ rfl dX1_tellingOfChain_10
set_option maxRecDepth 100000 in
set_option maxHeartbeats 4000000 in
theorem c_X1_tellingOfChain_X9 (a n o : Nat) (h : PH) (h2 : PH) (r : Int32) (ho : (l0_B ++ h.2.2.2)[o]? = some (.inr (9, [(0, 0), (0, 0), (2, a)]))) (ha : (l0_B ++ h.2.2.2)[a]? = some (.inl (0, n))) (hf : f_X1_tellingOfChain 9 a n o h = some (r, h2)) : Con yX1_tellingOfChain wsX1_tellingOfChain (rm_d 1) l0_B [.ref o, .ref 42] h (some (.int r)) h2 := by
  have hn9 : ∀ w ∈ wsX90, w ∈ wsX1_tellingOfChain := (fun _ hw => (List.mem_cons_of_mem _ (List.mem_append_right _ hw)))
  refine con_i (ty := .int) (cc := cX1_tellingOfChain) (nL := 2) (by decide) rfl (Nat.le_of_ble_eq_true rfl) ?_
  intro C hC hret
  change Go l0_B C 0 0 0 [(0, .ref o), (1, .ref 42)] [] h
  unfold f_X1_tellingOfChain at hf
  refine go_aload_n hC dX1_tellingOfChain_0 rfl 1 rfl ?_
  refine go_iconst hC dX1_tellingOfChain_1 k1_1 ?_
  obtain ⟨r_1, h_2, hc, hf⟩ := bd_e2 hf
  refine go_callS hC (c_X1_leave 1 h h_2 hc) gX1_tellingOfChain_X1_leave rfl ⟨rfl, rfl⟩ 2 e_X1_leave ⟨Nat.le_of_ble_eq_true rfl, Nat.le_of_ble_eq_true rfl⟩ rfl (st := []) (st1 := []) rfl rfl (Nat.le_of_ble_eq_true rfl) ⟨Nat.zero_le _, Nat.zero_le _⟩ dX1_tellingOfChain_2 ?_
  obtain ⟨hl9, hf⟩ := gl_e hf
  replace ho : (l0_B ++ h_2.2.2.2)[o]? = some (.inr (9, [(0, 0), (0, 0), (2, a)])) := by rw [hl9]; exact ho
  replace ha : (l0_B ++ h_2.2.2.2)[a]? = some (.inl (0, n)) := by rw [hl9]; exact ha
  refine go_aload_n hC dX1_tellingOfChain_5 rfl 0 rfl ?_
  obtain ⟨g_3, hf⟩ := gz_e hf
  refine go_geto hC (j := 2) (idx := 18) (nm := "stops") (ds := "[I") ho rfl rfl hn9 (Nat.le_of_ble_eq_true rfl) rfl rfl (List.mem_cons_of_mem _ (List.mem_append_left _ (List.mem_append_left _ (List.mem_append_left _ (List.mem_of_getElem? (i := 0) rfl))))) (Or.inl rfl) g_3 dX1_tellingOfChain_6 ?_
  refine go_alen hC ha (Nat.le_of_ble_eq_true rfl) rfl dX1_tellingOfChain_9 ?_
  obtain ⟨rfl, rfl⟩ := so_2 hf
  exact hret _ _ rfl dX1_tellingOfChain_10
def f_X1_telling (ci a n o : Nat) (h : PH) : Option (Int32 × PH) :=
  bd_2 (f_X1_tellingOfChain ci a n o h) fun r_1 h_2 =>
  gl_y h h_2 (
  some (r_1, h_2))
theorem e_X1_telling : yX1_telling.cls = RX1 ∧ yX1_telling.cls ≠ "java/lang/invoke/MethodHandle" ∧ yX1_telling.cls ≠ "java/lang/invoke/VarHandle" ∧ (parseMethodDescriptor yX1_telling.desc).map (fun d => d.parameters.length) = some 1 := by decide +kernel
set_option maxRecDepth 100000 in
set_option maxHeartbeats 4000000 in
theorem c_X1_telling_X1 (a n o : Nat) (h : PH) (h2 : PH) (r : Int32) (ho : (l0_B ++ h.2.2.2)[o]? = some (.inr (1, [(0, 0), (0, 0), (2, a)]))) (ha : (l0_B ++ h.2.2.2)[a]? = some (.inl (0, n))) (hf : f_X1_telling 1 a n o h = some (r, h2)) : Con yX1_telling wsX1_telling (rm_d 2) l0_B [.ref o, .ref 42] h (some (.int r)) h2 := by

  refine con_i (ty := .int) (cc := cX1_telling) (nL := 2) (by decide) rfl (Nat.le_of_ble_eq_true rfl) ?_
  intro C hC hret
  change Go l0_B C 0 0 0 [(0, .ref o), (1, .ref 42)] [] h
  unfold f_X1_telling at hf
  refine go_aload_n hC dX1_telling_0 rfl 0 rfl ?_
  refine go_aload_n hC dX1_telling_1 rfl 1 rfl ?_
  obtain ⟨r_1, h_2, hc, hf⟩ := bd_e2 hf
  refine go_callV hC (c_X1_tellingOfChain_X1 a n o h h_2 r_1 ho ha hc) gX1_telling_X1_tellingOfChain rfl ⟨rfl, rfl⟩ 1 e_X1_tellingOfChain ⟨Nat.le_of_ble_eq_true rfl, Nat.le_of_ble_eq_true rfl⟩ ho rfl rfl (st := []) (st1 := [.int r_1]) rfl rfl (Nat.le_of_ble_eq_true rfl) ⟨Nat.zero_le _, Nat.zero_le _⟩ dX1_telling_2 ?_
  obtain ⟨hl9, hf⟩ := gl_e hf
  replace ho : (l0_B ++ h_2.2.2.2)[o]? = some (.inr (1, [(0, 0), (0, 0), (2, a)])) := by rw [hl9]; exact ho
  replace ha : (l0_B ++ h_2.2.2.2)[a]? = some (.inl (0, n)) := by rw [hl9]; exact ha
  obtain ⟨rfl, rfl⟩ := so_2 hf
  exact hret _ _ rfl dX1_telling_5
def f_X1_labelled (ci a n o : Nat) (h : PH) : Option (Int32 × PH) :=
  bd_2 (f_X1_leave 4 h) fun r_1 h_2 =>
  gl_y h h_2 (
  some (h_2.1 o 0, h_2))
theorem e_X1_labelled : yX1_labelled.cls = RX1 ∧ yX1_labelled.cls ≠ "java/lang/invoke/MethodHandle" ∧ yX1_labelled.cls ≠ "java/lang/invoke/VarHandle" ∧ (parseMethodDescriptor yX1_labelled.desc).map (fun d => d.parameters.length) = some 1 := by decide +kernel
set_option maxRecDepth 100000 in
set_option maxHeartbeats 4000000 in
theorem c_X1_labelled_X1 (a n o : Nat) (h : PH) (h2 : PH) (r : Int32) (ho : (l0_B ++ h.2.2.2)[o]? = some (.inr (1, [(0, 0), (0, 0), (2, a)]))) (ha : (l0_B ++ h.2.2.2)[a]? = some (.inl (0, n))) (hf : f_X1_labelled 1 a n o h = some (r, h2)) : Con yX1_labelled wsX1_labelled (rm_d 1) l0_B [.ref o, .ref 42] h (some (.int r)) h2 := by
  have hn1 : ∀ w ∈ wsX10, w ∈ wsX1_labelled := (fun _ hw => (List.mem_cons_of_mem _ (List.mem_append_left _ (List.mem_append_left _ (List.mem_append_right _ hw)))))
  refine con_i (ty := .int) (cc := cX1_labelled) (nL := 2) (by decide) rfl (Nat.le_of_ble_eq_true rfl) ?_
  intro C hC hret
  change Go l0_B C 0 0 0 [(0, .ref o), (1, .ref 42)] [] h
  unfold f_X1_labelled at hf
  refine go_aload_n hC dX1_labelled_0 rfl 1 rfl ?_
  refine go_iconst hC dX1_labelled_1 k1_4 ?_
  obtain ⟨r_1, h_2, hc, hf⟩ := bd_e2 hf
  refine go_callS hC (c_X1_leave 4 h h_2 hc) gX1_labelled_X1_leave rfl ⟨rfl, rfl⟩ 2 e_X1_leave ⟨Nat.le_of_ble_eq_true rfl, Nat.le_of_ble_eq_true rfl⟩ rfl (st := []) (st1 := []) rfl rfl (Nat.le_of_ble_eq_true rfl) ⟨Nat.zero_le _, Nat.zero_le _⟩ dX1_labelled_2 ?_
  obtain ⟨hl9, hf⟩ := gl_e hf
  replace ho : (l0_B ++ h_2.2.2.2)[o]? = some (.inr (1, [(0, 0), (0, 0), (2, a)])) := by rw [hl9]; exact ho
  replace ha : (l0_B ++ h_2.2.2.2)[a]? = some (.inl (0, n)) := by rw [hl9]; exact ha
  refine go_aload_n hC dX1_labelled_5 rfl 0 rfl ?_
  refine go_geti hC (j := 0) (idx := 9) (nm := "number") (ds := "I") ho rfl rfl hn1 (Nat.le_of_ble_eq_true rfl) rfl rfl (List.mem_cons_of_mem _ (List.mem_append_left _ (List.mem_append_left _ (List.mem_append_left _ (List.mem_of_getElem? (i := 0) rfl))))) (Or.inl rfl) dX1_labelled_6 ?_
  obtain ⟨rfl, rfl⟩ := so_2 hf
  exact hret _ _ rfl dX1_labelled_9
set_option maxRecDepth 100000 in
set_option maxHeartbeats 4000000 in
theorem c_X1_labelled_X7 (a n o : Nat) (h : PH) (h2 : PH) (r : Int32) (ho : (l0_B ++ h.2.2.2)[o]? = some (.inr (7, [(0, 0), (0, 0), (2, a)]))) (ha : (l0_B ++ h.2.2.2)[a]? = some (.inl (0, n))) (hf : f_X1_labelled 7 a n o h = some (r, h2)) : Con yX1_labelled wsX1_labelled (rm_d 1) l0_B [.ref o, .ref 42] h (some (.int r)) h2 := by
  have hn7 : ∀ w ∈ wsX70, w ∈ wsX1_labelled := (fun _ hw => (List.mem_cons_of_mem _ (List.mem_append_left _ (List.mem_append_right _ hw))))
  refine con_i (ty := .int) (cc := cX1_labelled) (nL := 2) (by decide) rfl (Nat.le_of_ble_eq_true rfl) ?_
  intro C hC hret
  change Go l0_B C 0 0 0 [(0, .ref o), (1, .ref 42)] [] h
  unfold f_X1_labelled at hf
  refine go_aload_n hC dX1_labelled_0 rfl 1 rfl ?_
  refine go_iconst hC dX1_labelled_1 k1_4 ?_
  obtain ⟨r_1, h_2, hc, hf⟩ := bd_e2 hf
  refine go_callS hC (c_X1_leave 4 h h_2 hc) gX1_labelled_X1_leave rfl ⟨rfl, rfl⟩ 2 e_X1_leave ⟨Nat.le_of_ble_eq_true rfl, Nat.le_of_ble_eq_true rfl⟩ rfl (st := []) (st1 := []) rfl rfl (Nat.le_of_ble_eq_true rfl) ⟨Nat.zero_le _, Nat.zero_le _⟩ dX1_labelled_2 ?_
  obtain ⟨hl9, hf⟩ := gl_e hf
  replace ho : (l0_B ++ h_2.2.2.2)[o]? = some (.inr (7, [(0, 0), (0, 0), (2, a)])) := by rw [hl9]; exact ho
  replace ha : (l0_B ++ h_2.2.2.2)[a]? = some (.inl (0, n)) := by rw [hl9]; exact ha
  refine go_aload_n hC dX1_labelled_5 rfl 0 rfl ?_
  refine go_geti hC (j := 0) (idx := 9) (nm := "number") (ds := "I") ho rfl rfl hn7 (Nat.le_of_ble_eq_true rfl) rfl rfl (List.mem_cons_of_mem _ (List.mem_append_left _ (List.mem_append_left _ (List.mem_append_left _ (List.mem_of_getElem? (i := 0) rfl))))) (Or.inl rfl) dX1_labelled_6 ?_
  obtain ⟨rfl, rfl⟩ := so_2 hf
  exact hret _ _ rfl dX1_labelled_9
def f_X7_kind (ci a n o : Nat) (h : PH) : Option (Int32) :=
  some 1
theorem e_X7_kind : yX7_kind.cls = RX7 ∧ yX7_kind.cls ≠ "java/lang/invoke/MethodHandle" ∧ yX7_kind.cls ≠ "java/lang/invoke/VarHandle" ∧ (parseMethodDescriptor yX7_kind.desc).map (fun d => d.parameters.length) = some 0 := by decide +kernel
set_option maxRecDepth 100000 in
set_option maxHeartbeats 4000000 in
theorem c_X7_kind_X7 (a n o : Nat) (h : PH) (r : Int32) (ho : (l0_B ++ h.2.2.2)[o]? = some (.inr (7, [(0, 0), (0, 0), (2, a)]))) (ha : (l0_B ++ h.2.2.2)[a]? = some (.inl (0, n))) (hf : f_X7_kind 7 a n o h = some r) : Con yX7_kind wsX7_kind (rm_d 0) l0_B [.ref o] h (some (.int r)) h := by

  refine con_i (ty := .int) (cc := cX7_kind) (nL := 1) (by decide) rfl (Nat.le_of_ble_eq_true rfl) ?_
  intro C hC hret
  change Go l0_B C 0 0 0 [(0, .ref o)] [] h
  unfold f_X7_kind at hf
  refine go_iconst hC dX7_kind_0 k1_1 ?_
  obtain rfl := so_1 hf
  exact hret _ _ rfl dX7_kind_1
def f_X7_telling (ci a n o : Nat) (h : PH) : Option (Int32 × PH) :=
  bd_2 (f_X1_leave 2 h) fun r_2 h_1 =>
  gl_y h h_1 (
  bd_2 (f_X1_tellingOfChain ci a n o h_1) fun r_3 h_4 =>
  gl_y h_1 h_4 (
  some (r_3 + 100, h_4)))
def wsX7_telling2 : List Cond := wsX7_telling ++ [Cond.methodLink RX7 30 ⟨"LampWays$Ring", "leave", "([II)V"⟩, Cond.sameMethod "LampWays$Ring" "LampWays$Chain" "leave" "([II)V"]
theorem hX7_telling_X1_tellingOfChain_u34X7 : GoodIn wsX7_telling2 (va_wsU RX7 34 RX7 "LampWays$Chain" ⟨"LampWays$Ring", "tellingOfChain", "([I)I"⟩ yX1_tellingOfChain wsX1_tellingOfChain) := gi_l gX7_telling_X1_tellingOfChain_u34X7
theorem hX7_telling_X1_tellingOfChain_u34X9 : GoodIn wsX7_telling2 (va_wsU RX7 34 RX9 "LampWays$Chain" ⟨"LampWays$Ring", "tellingOfChain", "([I)I"⟩ yX1_tellingOfChain wsX1_tellingOfChain) := gi_l gX7_telling_X1_tellingOfChain_u34X9
theorem e_X7_telling : yX7_telling.cls = RX7 ∧ yX7_telling.cls ≠ "java/lang/invoke/MethodHandle" ∧ yX7_telling.cls ≠ "java/lang/invoke/VarHandle" ∧ (parseMethodDescriptor yX7_telling.desc).map (fun d => d.parameters.length) = some 1 := by decide +kernel
set_option maxRecDepth 100000 in
set_option maxHeartbeats 4000000 in
theorem c_X7_telling_X7 (a n o : Nat) (h : PH) (h2 : PH) (r : Int32) (ho : (l0_B ++ h.2.2.2)[o]? = some (.inr (7, [(0, 0), (0, 0), (2, a)]))) (ha : (l0_B ++ h.2.2.2)[a]? = some (.inl (0, n))) (hf : f_X7_telling 7 a n o h = some (r, h2)) : Con yX7_telling wsX7_telling2 (rm_d 2) l0_B [.ref o, .ref 42] h (some (.int r)) h2 := by

  refine con_i (ty := .int) (cc := cX7_telling) (nL := 2) (by decide) rfl (Nat.le_of_ble_eq_true rfl) ?_
  intro C hC hret
  change Go l0_B C 0 0 0 [(0, .ref o), (1, .ref 42)] [] h
  unfold f_X7_telling at hf
  refine go_aload_n hC dX7_telling_0 rfl 1 rfl ?_
  refine go_iconst hC dX7_telling_1 k1_2 ?_
  obtain ⟨r_2, h_1, hc, hf⟩ := bd_e2 hf
  refine go_callX hC (x := ⟨"LampWays$Ring", "leave", "([II)V"⟩) (owner := "LampWays$Chain") (c_X1_leave 2 h h_1 hc) (goodIn_of _ (by decide +kernel)) rfl ⟨rfl, rfl⟩ rfl (List.mem_append_right _ (List.mem_of_getElem? (i := 0) rfl)) (List.mem_append_right _ (List.mem_of_getElem? (i := 1) rfl)) (List.mem_append_left _ (List.mem_cons_of_mem _ (List.mem_append_left _ (List.mem_append_left _ (List.mem_append_left _ (List.mem_of_getElem? (i := 8) rfl)))))) (List.mem_append_left _ (List.mem_cons_of_mem _ (List.mem_append_left _ (List.mem_append_left _ (List.mem_append_left _ (List.mem_of_getElem? (i := 4) rfl)))))) 2 e_X1_leave ⟨Nat.le_of_ble_eq_true rfl, Nat.le_of_ble_eq_true rfl⟩ rfl (st := []) (st1 := []) rfl rfl (Nat.le_of_ble_eq_true rfl) ⟨Nat.zero_le _, Nat.zero_le _⟩ dX7_telling_2 ?_
  obtain ⟨hl9, hf⟩ := gl_e hf
  replace ho : (l0_B ++ h_1.2.2.2)[o]? = some (.inr (7, [(0, 0), (0, 0), (2, a)])) := by rw [hl9]; exact ho
  replace ha : (l0_B ++ h_1.2.2.2)[a]? = some (.inl (0, n)) := by rw [hl9]; exact ha
  refine go_aload_n hC dX7_telling_5 rfl 0 rfl ?_
  refine go_aload_n hC dX7_telling_6 rfl 1 rfl ?_
  obtain ⟨r_3, h_4, hc, hf⟩ := bd_e2 hf
  refine go_callU hC (c_X1_tellingOfChain_X7 a n o h_1 h_4 r_3 ho ha hc) hX7_telling_X1_tellingOfChain_u34X7 rfl ⟨rfl, rfl⟩ rfl 1 (by decide +kernel) ⟨Nat.le_of_ble_eq_true rfl, Nat.le_of_ble_eq_true rfl⟩ ho rfl rfl (st := []) (st1 := [.int r_3]) rfl rfl (Nat.le_of_ble_eq_true rfl) ⟨Nat.zero_le _, Nat.zero_le _⟩ dX7_telling_7 ?_
  obtain ⟨hl9, hf⟩ := gl_e hf
  replace ho : (l0_B ++ h_4.2.2.2)[o]? = some (.inr (7, [(0, 0), (0, 0), (2, a)])) := by rw [hl9]; exact ho
  replace ha : (l0_B ++ h_4.2.2.2)[a]? = some (.inl (0, n)) := by rw [hl9]; exact ha
  refine go_bipush hC dX7_telling_10 k8_100 ?_
  refine go_iadd hC dX7_telling_12 ?_
  obtain ⟨rfl, rfl⟩ := so_2 hf
  exact hret _ _ rfl dX7_telling_13
set_option maxRecDepth 100000 in
set_option maxHeartbeats 4000000 in
theorem c_X7_telling_X9 (a n o : Nat) (h : PH) (h2 : PH) (r : Int32) (ho : (l0_B ++ h.2.2.2)[o]? = some (.inr (9, [(0, 0), (0, 0), (2, a)]))) (ha : (l0_B ++ h.2.2.2)[a]? = some (.inl (0, n))) (hf : f_X7_telling 9 a n o h = some (r, h2)) : Con yX7_telling wsX7_telling2 (rm_d 2) l0_B [.ref o, .ref 42] h (some (.int r)) h2 := by

  refine con_i (ty := .int) (cc := cX7_telling) (nL := 2) (by decide) rfl (Nat.le_of_ble_eq_true rfl) ?_
  intro C hC hret
  change Go l0_B C 0 0 0 [(0, .ref o), (1, .ref 42)] [] h
  unfold f_X7_telling at hf
  refine go_aload_n hC dX7_telling_0 rfl 1 rfl ?_
  refine go_iconst hC dX7_telling_1 k1_2 ?_
  obtain ⟨r_2, h_1, hc, hf⟩ := bd_e2 hf
  refine go_callX hC (x := ⟨"LampWays$Ring", "leave", "([II)V"⟩) (owner := "LampWays$Chain") (c_X1_leave 2 h h_1 hc) (goodIn_of _ (by decide +kernel)) rfl ⟨rfl, rfl⟩ rfl (List.mem_append_right _ (List.mem_of_getElem? (i := 0) rfl)) (List.mem_append_right _ (List.mem_of_getElem? (i := 1) rfl)) (List.mem_append_left _ (List.mem_cons_of_mem _ (List.mem_append_left _ (List.mem_append_left _ (List.mem_append_left _ (List.mem_of_getElem? (i := 8) rfl)))))) (List.mem_append_left _ (List.mem_cons_of_mem _ (List.mem_append_left _ (List.mem_append_left _ (List.mem_append_left _ (List.mem_of_getElem? (i := 4) rfl)))))) 2 e_X1_leave ⟨Nat.le_of_ble_eq_true rfl, Nat.le_of_ble_eq_true rfl⟩ rfl (st := []) (st1 := []) rfl rfl (Nat.le_of_ble_eq_true rfl) ⟨Nat.zero_le _, Nat.zero_le _⟩ dX7_telling_2 ?_
  obtain ⟨hl9, hf⟩ := gl_e hf
  replace ho : (l0_B ++ h_1.2.2.2)[o]? = some (.inr (9, [(0, 0), (0, 0), (2, a)])) := by rw [hl9]; exact ho
  replace ha : (l0_B ++ h_1.2.2.2)[a]? = some (.inl (0, n)) := by rw [hl9]; exact ha
  refine go_aload_n hC dX7_telling_5 rfl 0 rfl ?_
  refine go_aload_n hC dX7_telling_6 rfl 1 rfl ?_
  obtain ⟨r_3, h_4, hc, hf⟩ := bd_e2 hf
  refine go_callU hC (c_X1_tellingOfChain_X9 a n o h_1 h_4 r_3 ho ha hc) hX7_telling_X1_tellingOfChain_u34X9 rfl ⟨rfl, rfl⟩ rfl 1 (by decide +kernel) ⟨Nat.le_of_ble_eq_true rfl, Nat.le_of_ble_eq_true rfl⟩ ho rfl rfl (st := []) (st1 := [.int r_3]) rfl rfl (Nat.le_of_ble_eq_true rfl) ⟨Nat.zero_le _, Nat.zero_le _⟩ dX7_telling_7 ?_
  obtain ⟨hl9, hf⟩ := gl_e hf
  replace ho : (l0_B ++ h_4.2.2.2)[o]? = some (.inr (9, [(0, 0), (0, 0), (2, a)])) := by rw [hl9]; exact ho
  replace ha : (l0_B ++ h_4.2.2.2)[a]? = some (.inl (0, n)) := by rw [hl9]; exact ha
  refine go_bipush hC dX7_telling_10 k8_100 ?_
  refine go_iadd hC dX7_telling_12 ?_
  obtain ⟨rfl, rfl⟩ := so_2 hf
  exact hret _ _ rfl dX7_telling_13
def f_X9_kind (ci a n o : Nat) (h : PH) : Option (Int32) :=
  some 2
theorem e_X9_kind : yX9_kind.cls = RX9 ∧ yX9_kind.cls ≠ "java/lang/invoke/MethodHandle" ∧ yX9_kind.cls ≠ "java/lang/invoke/VarHandle" ∧ (parseMethodDescriptor yX9_kind.desc).map (fun d => d.parameters.length) = some 0 := by decide +kernel
set_option maxRecDepth 100000 in
set_option maxHeartbeats 4000000 in
theorem c_X9_kind_X9 (a n o : Nat) (h : PH) (r : Int32) (ho : (l0_B ++ h.2.2.2)[o]? = some (.inr (9, [(0, 0), (0, 0), (2, a)]))) (ha : (l0_B ++ h.2.2.2)[a]? = some (.inl (0, n))) (hf : f_X9_kind 9 a n o h = some r) : Con yX9_kind wsX9_kind (rm_d 0) l0_B [.ref o] h (some (.int r)) h := by

  refine con_i (ty := .int) (cc := cX9_kind) (nL := 1) (by decide) rfl (Nat.le_of_ble_eq_true rfl) ?_
  intro C hC hret
  change Go l0_B C 0 0 0 [(0, .ref o)] [] h
  unfold f_X9_kind at hf
  refine go_iconst hC dX9_kind_0 k1_2 ?_
  obtain rfl := so_1 hf
  exact hret _ _ rfl dX9_kind_1
def f_X9_strands (ci a n o : Nat) (h : PH) : Option (Int32) :=
  some 2
theorem e_X9_strands : yX9_strands.cls = RX9 ∧ yX9_strands.cls ≠ "java/lang/invoke/MethodHandle" ∧ yX9_strands.cls ≠ "java/lang/invoke/VarHandle" ∧ (parseMethodDescriptor yX9_strands.desc).map (fun d => d.parameters.length) = some 0 := by decide +kernel
set_option maxRecDepth 100000 in
set_option maxHeartbeats 4000000 in
theorem c_X9_strands_X9 (a n o : Nat) (h : PH) (r : Int32) (ho : (l0_B ++ h.2.2.2)[o]? = some (.inr (9, [(0, 0), (0, 0), (2, a)]))) (ha : (l0_B ++ h.2.2.2)[a]? = some (.inl (0, n))) (hf : f_X9_strands 9 a n o h = some r) : Con yX9_strands wsX9_strands (rm_d 0) l0_B [.ref o] h (some (.int r)) h := by

  refine con_i (ty := .int) (cc := cX9_strands) (nL := 1) (by decide) rfl (Nat.le_of_ble_eq_true rfl) ?_
  intro C hC hret
  change Go l0_B C 0 0 0 [(0, .ref o)] [] h
  unfold f_X9_strands at hf
  refine go_iconst hC dX9_strands_0 k1_2 ?_
  obtain rfl := so_1 hf
  exact hret _ _ rfl dX9_strands_1
def f_X9_telling (ci a n o : Nat) (h : PH) : Option (Int32 × PH) :=
  bd_2 (f_X1_leave 3 h) fun r_2 h_1 =>
  gl_y h h_1 (
  bd_2 (f_X7_telling ci a n o h_1) fun r_3 h_4 =>
  gl_y h_1 h_4 (
  bd_2 (f_X1_tellingOfChain ci a n o h_4) fun r_5 h_6 =>
  gl_y h_4 h_6 (
  some (r_3 + r_5, h_6))))
def wsX9_telling2 : List Cond := wsX9_telling ++ [Cond.methodLink RX9 7 ⟨"LampWays$Strong", "leave", "([II)V"⟩, Cond.sameMethod "LampWays$Strong" "LampWays$Chain" "leave" "([II)V", Cond.methodLink RX7 30 ⟨"LampWays$Ring", "leave", "([II)V"⟩, Cond.sameMethod "LampWays$Ring" "LampWays$Chain" "leave" "([II)V"]
set_option maxRecDepth 100000 in
theorem hX9_telling_X7_telling_s13 : GoodIn wsX9_telling2 (va_wsSU RX9 13 yX7_telling wsX7_telling2) := gi_x (gi_l gX9_telling_X7_telling_s13) (goodIn_of [Cond.methodLink RX7 30 ⟨"LampWays$Ring", "leave", "([II)V"⟩, Cond.sameMethod "LampWays$Ring" "LampWays$Chain" "leave" "([II)V"] (by decide +kernel))
theorem hX9_telling_X1_tellingOfChain_u17X9 : GoodIn wsX9_telling2 (va_wsU RX9 17 RX9 "LampWays$Chain" ⟨"LampWays$Strong", "tellingOfChain", "([I)I"⟩ yX1_tellingOfChain wsX1_tellingOfChain) := gi_l gX9_telling_X1_tellingOfChain_u17X9
theorem e_X9_telling : yX9_telling.cls = RX9 ∧ yX9_telling.cls ≠ "java/lang/invoke/MethodHandle" ∧ yX9_telling.cls ≠ "java/lang/invoke/VarHandle" ∧ (parseMethodDescriptor yX9_telling.desc).map (fun d => d.parameters.length) = some 1 := by decide +kernel
set_option maxRecDepth 100000 in
set_option maxHeartbeats 4000000 in
theorem c_X9_telling_X9 (a n o : Nat) (h : PH) (h2 : PH) (r : Int32) (ho : (l0_B ++ h.2.2.2)[o]? = some (.inr (9, [(0, 0), (0, 0), (2, a)]))) (ha : (l0_B ++ h.2.2.2)[a]? = some (.inl (0, n))) (hf : f_X9_telling 9 a n o h = some (r, h2)) : Con yX9_telling wsX9_telling2 (rm_d 3) l0_B [.ref o, .ref 42] h (some (.int r)) h2 := by

  refine con_i (ty := .int) (cc := cX9_telling) (nL := 3) (by decide) rfl (Nat.le_of_ble_eq_true rfl) ?_
  intro C hC hret
  change Go l0_B C 0 0 0 [(0, .ref o), (1, .ref 42)] [] h
  unfold f_X9_telling at hf
  refine go_aload_n hC dX9_telling_0 rfl 1 rfl ?_
  refine go_iconst hC dX9_telling_1 k1_3 ?_
  obtain ⟨r_2, h_1, hc, hf⟩ := bd_e2 hf
  refine go_callX hC (x := ⟨"LampWays$Strong", "leave", "([II)V"⟩) (owner := "LampWays$Chain") (c_X1_leave 3 h h_1 hc) (goodIn_of _ (by decide +kernel)) rfl ⟨rfl, rfl⟩ rfl (List.mem_append_right _ (List.mem_of_getElem? (i := 0) rfl)) (List.mem_append_right _ (List.mem_of_getElem? (i := 1) rfl)) (List.mem_append_left _ (List.mem_cons_of_mem _ (List.mem_append_left _ (List.mem_append_left _ (List.mem_append_left _ (List.mem_of_getElem? (i := 14) rfl)))))) (List.mem_append_left _ (List.mem_cons_of_mem _ (List.mem_append_left _ (List.mem_append_left _ (List.mem_append_left _ (List.mem_of_getElem? (i := 10) rfl)))))) 2 e_X1_leave ⟨Nat.le_of_ble_eq_true rfl, Nat.le_of_ble_eq_true rfl⟩ rfl (st := []) (st1 := []) rfl rfl (Nat.le_of_ble_eq_true rfl) ⟨Nat.zero_le _, Nat.zero_le _⟩ dX9_telling_2 ?_
  obtain ⟨hl9, hf⟩ := gl_e hf
  replace ho : (l0_B ++ h_1.2.2.2)[o]? = some (.inr (9, [(0, 0), (0, 0), (2, a)])) := by rw [hl9]; exact ho
  replace ha : (l0_B ++ h_1.2.2.2)[a]? = some (.inl (0, n)) := by rw [hl9]; exact ha
  refine go_aload_n hC dX9_telling_5 rfl 0 rfl ?_
  refine go_aload_n hC dX9_telling_6 rfl 1 rfl ?_
  obtain ⟨r_3, h_4, hc, hf⟩ := bd_e2 hf
  refine go_callSU hC (c_X7_telling_X9 a n o h_1 h_4 r_3 ho ha hc) hX9_telling_X7_telling_s13 rfl ⟨rfl, rfl⟩ 1 (by decide +kernel) ⟨Nat.le_of_ble_eq_true rfl, Nat.le_of_ble_eq_true rfl⟩ ho rfl rfl (st := []) (st1 := [.int r_3]) rfl rfl (Nat.le_of_ble_eq_true rfl) ⟨Nat.zero_le _, Nat.zero_le _⟩ dX9_telling_7 ?_
  obtain ⟨hl9, hf⟩ := gl_e hf
  replace ho : (l0_B ++ h_4.2.2.2)[o]? = some (.inr (9, [(0, 0), (0, 0), (2, a)])) := by rw [hl9]; exact ho
  replace ha : (l0_B ++ h_4.2.2.2)[a]? = some (.inl (0, n)) := by rw [hl9]; exact ha
  refine go_istore_n hC dX9_telling_10 rfl (Nat.le_of_ble_eq_true rfl) rfl ?_
  refine go_iload_n hC dX9_telling_11 rfl 0 rfl ?_
  refine go_aload_n hC dX9_telling_12 rfl 1 rfl ?_
  refine go_aload_n hC dX9_telling_13 rfl 2 rfl ?_
  obtain ⟨r_5, h_6, hc, hf⟩ := bd_e2 hf
  refine go_callU hC (c_X1_tellingOfChain_X9 a n o h_4 h_6 r_5 ho ha hc) hX9_telling_X1_tellingOfChain_u17X9 rfl ⟨rfl, rfl⟩ rfl 1 (by decide +kernel) ⟨Nat.le_of_ble_eq_true rfl, Nat.le_of_ble_eq_true rfl⟩ ho rfl rfl (st := [.int r_3]) (st1 := [.int r_5, .int r_3]) rfl rfl (Nat.le_of_ble_eq_true rfl) ⟨Nat.zero_le _, Nat.zero_le _⟩ dX9_telling_14 ?_
  obtain ⟨hl9, hf⟩ := gl_e hf
  replace ho : (l0_B ++ h_6.2.2.2)[o]? = some (.inr (9, [(0, 0), (0, 0), (2, a)])) := by rw [hl9]; exact ho
  replace ha : (l0_B ++ h_6.2.2.2)[a]? = some (.inl (0, n)) := by rw [hl9]; exact ha
  refine go_iadd hC dX9_telling_17 ?_
  obtain ⟨rfl, rfl⟩ := so_2 hf
  exact hret _ _ rfl dX9_telling_18
def f_X9_labelled (ci a n o : Nat) (h : PH) : Option (Int32 × PH) :=
  bd_2 (f_X1_leave 5 h) fun r_2 h_1 =>
  gl_y h h_1 (
  some (70, h_1))
def wsX9_labelled2 : List Cond := wsX9_labelled ++ [Cond.static yX1_leave, Cond.initialized RX1, Cond.code yX1_leave cX1_leave 2 none, Cond.methodLink RX9 7 ⟨"LampWays$Strong", "leave", "([II)V"⟩, Cond.sameMethod "LampWays$Strong" "LampWays$Chain" "leave" "([II)V"]
theorem e_X9_labelled : yX9_labelled.cls = RX9 ∧ yX9_labelled.cls ≠ "java/lang/invoke/MethodHandle" ∧ yX9_labelled.cls ≠ "java/lang/invoke/VarHandle" ∧ (parseMethodDescriptor yX9_labelled.desc).map (fun d => d.parameters.length) = some 1 := by decide +kernel
set_option maxRecDepth 100000 in
set_option maxHeartbeats 4000000 in
theorem c_X9_labelled_X9 (a n o : Nat) (h : PH) (h2 : PH) (r : Int32) (ho : (l0_B ++ h.2.2.2)[o]? = some (.inr (9, [(0, 0), (0, 0), (2, a)]))) (ha : (l0_B ++ h.2.2.2)[a]? = some (.inl (0, n))) (hf : f_X9_labelled 9 a n o h = some (r, h2)) : Con yX9_labelled wsX9_labelled2 (rm_d 1) l0_B [.ref o, .ref 42] h (some (.int r)) h2 := by

  refine con_i (ty := .int) (cc := cX9_labelled) (nL := 2) (by decide) rfl (Nat.le_of_ble_eq_true rfl) ?_
  intro C hC hret
  change Go l0_B C 0 0 0 [(0, .ref o), (1, .ref 42)] [] h
  unfold f_X9_labelled at hf
  refine go_aload_n hC dX9_labelled_0 rfl 1 rfl ?_
  refine go_iconst hC dX9_labelled_1 k1_5 ?_
  obtain ⟨r_2, h_1, hc, hf⟩ := bd_e2 hf
  refine go_callX hC (x := ⟨"LampWays$Strong", "leave", "([II)V"⟩) (owner := "LampWays$Chain") (c_X1_leave 5 h h_1 hc) (goodIn_of _ (by decide +kernel)) rfl ⟨rfl, rfl⟩ rfl (List.mem_append_right _ (List.mem_of_getElem? (i := 3) rfl)) (List.mem_append_right _ (List.mem_of_getElem? (i := 4) rfl)) (List.mem_append_right _ (List.mem_of_getElem? (i := 0) rfl)) (List.mem_append_right _ (List.mem_of_getElem? (i := 1) rfl)) 2 e_X1_leave ⟨Nat.le_of_ble_eq_true rfl, Nat.le_of_ble_eq_true rfl⟩ rfl (st := []) (st1 := []) rfl rfl (Nat.le_of_ble_eq_true rfl) ⟨Nat.zero_le _, Nat.zero_le _⟩ dX9_labelled_2 ?_
  obtain ⟨hl9, hf⟩ := gl_e hf
  replace ho : (l0_B ++ h_1.2.2.2)[o]? = some (.inr (9, [(0, 0), (0, 0), (2, a)])) := by rw [hl9]; exact ho
  replace ha : (l0_B ++ h_1.2.2.2)[a]? = some (.inl (0, n)) := by rw [hl9]; exact ha
  refine go_bipush hC dX9_labelled_5 k8_70 ?_
  obtain ⟨rfl, rfl⟩ := so_2 hf
  exact hret _ _ rfl dX9_labelled_7
