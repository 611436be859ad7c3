def f_X12_in (x0 : Int64) (x2 : Int64) (x4 : Int64) (h : PH) : Option (Int32) :=
  if (lg_cmp x0 x2) < 0 then (
  some 0)
  else (
  if 0 < (lg_cmp x0 x4) then (
  some 0)
  else (
  some 1))
theorem e_X12_in : yX12_in.cls ≠ "java/lang/invoke/MethodHandle" ∧ yX12_in.cls ≠ "java/lang/invoke/VarHandle" ∧ (parseMethodDescriptor yX12_in.desc).map (fun d => d.parameters.length) = some 3 := by decide +kernel
set_option maxRecDepth 100000 in
set_option maxHeartbeats 4000000 in
theorem c_X12_in (x0 : Int64) (x2 : Int64) (x4 : Int64) (h : PH) (r : Int32) (hf : f_X12_in x0 x2 x4 h = some r) : Con yX12_in wsX12_in (rm_d 0) l0_B [.long x0, .long x2, .long x4] h (some (.int r)) h := by

  refine con_i (ty := .boolean) (cc := cX12_in) (nL := 6) (by decide) rfl (Nat.le_of_ble_eq_true rfl) ?_
  intro C hC hret
  change Go l0_B C 0 0 0 [(0, .long x0), (2, .long x2), (4, .long x4)] [] h
  unfold f_X12_in at hf
  refine go_lload_n hC dX12_in_0 rfl 0 rfl ?_
  refine go_lload_n hC dX12_in_1 rfl 1 rfl ?_
  refine go_lcmp hC dX12_in_2 ?_
  refine go_if_lt hC dX12_in_3 (tgt := 17) (by decide) (fun c_2 => ?_) (fun c_2 => ?_)
  · replace hf := if_t c_2 hf
    refine go_iconst hC dX12_in_17 k1_0 ?_
    obtain rfl := so_1 hf
    exact hret _ _ (zo_n (Or.inl rfl)) dX12_in_18
  · replace hf := if_f c_2 hf
    refine go_lload_n hC dX12_in_6 rfl 0 rfl ?_
    refine go_lload hC dX12_in_7 2 rfl ?_
    refine go_lcmp hC dX12_in_9 ?_
    refine go_if_gt hC dX12_in_10 (tgt := 17) (by decide) (fun c_1 => ?_) (fun c_1 => ?_)
    · replace hf := if_t c_1 hf
      refine go_iconst hC dX12_in_17 k1_0 ?_
      obtain rfl := so_1 hf
      exact hret _ _ (zo_n (Or.inl rfl)) dX12_in_18
    · replace hf := if_f c_1 hf
      refine go_iconst hC dX12_in_13 k1_1 ?_
      refine go_goto hC dX12_in_14 (tgt := 18) (by decide) ?_
      obtain rfl := so_1 hf
      exact hret _ _ (zo_n (Or.inr rfl)) dX12_in_18
def f_X12_lost (h : PH) : Option (Int64) :=
  some (-9223372036854775808)
theorem e_X12_lost : yX12_lost.cls ≠ "java/lang/invoke/MethodHandle" ∧ yX12_lost.cls ≠ "java/lang/invoke/VarHandle" ∧ (parseMethodDescriptor yX12_lost.desc).map (fun d => d.parameters.length) = some 0 := by decide +kernel
set_option maxRecDepth 100000 in
set_option maxHeartbeats 4000000 in
theorem c_X12_lost (h : PH) (r : Int64) (hf : f_X12_lost h = some r) : Con yX12_lost wsX12_lost (rm_d 0) l0_B [] h (some (.long r)) h := by

  refine con_l (cc := cX12_lost) (nL := 0) (by decide) rfl (Nat.le_of_ble_eq_true rfl) ?_
  intro C hC hret
  change Go l0_B C 0 0 0 [] [] h
  unfold f_X12_lost at hf
  refine go_ldc2 hC (v := (-9223372036854775808)) (List.mem_cons_of_mem _ (List.mem_of_getElem? (i := 0) rfl)) dX12_lost_0 ?_
  obtain rfl := so_1 hf
  exact hret _ _ dX12_lost_3
def f_X12_hasBit (x0 : Int32) (x1 : Int32) (h : PH) : Option (Int32) :=
  if ((x0 >>> (x1 &&& 31)) &&& 1) = 1 then (
  some 1)
  else (
  some 0)
theorem e_X12_hasBit : yX12_hasBit.cls ≠ "java/lang/invoke/MethodHandle" ∧ yX12_hasBit.cls ≠ "java/lang/invoke/VarHandle" ∧ (parseMethodDescriptor yX12_hasBit.desc).map (fun d => d.parameters.length) = some 2 := by decide +kernel
set_option maxRecDepth 100000 in
set_option maxHeartbeats 4000000 in
theorem c_X12_hasBit (x0 : Int32) (x1 : Int32) (h : PH) (r : Int32) (hf : f_X12_hasBit x0 x1 h = some r) : Con yX12_hasBit wsX12_hasBit (rm_d 0) l0_B [.int x0, .int x1] h (some (.int r)) h := by

  refine con_i (ty := .boolean) (cc := cX12_hasBit) (nL := 2) (by decide) rfl (Nat.le_of_ble_eq_true rfl) ?_
  intro C hC hret
  change Go l0_B C 0 0 0 [(0, .int x0), (1, .int x1)] [] h
  unfold f_X12_hasBit at hf
  refine go_iload_n hC dX12_hasBit_0 rfl 0 rfl ?_
  refine go_iload_n hC dX12_hasBit_1 rfl 1 rfl ?_
  refine go_ishr hC dX12_hasBit_2 ?_
  refine go_iconst hC dX12_hasBit_3 k1_1 ?_
  refine go_iand hC dX12_hasBit_4 ?_
  refine go_iconst hC dX12_hasBit_5 k1_1 ?_
  refine go_icmp_ne hC dX12_hasBit_6 (tgt := 13) (by decide) (fun c_1 => ?_) (fun c_1 => ?_)
  · replace hf := if_f c_1 hf
    refine go_iconst hC dX12_hasBit_13 k1_0 ?_
    obtain rfl := so_1 hf
    exact hret _ _ (zo_n (Or.inl rfl)) dX12_hasBit_14
  · replace hf := if_t c_1 hf
    refine go_iconst hC dX12_hasBit_9 k1_1 ?_
    refine go_goto hC dX12_hasBit_10 (tgt := 14) (by decide) ?_
    obtain rfl := so_1 hf
    exact hret _ _ (zo_n (Or.inr rfl)) dX12_hasBit_14
def f_X12_lesser (x0 : Int32) (x1 : Int32) (h : PH) : Option (Int32) :=
  if x1 ≤ x0 then (
  some x1)
  else (
  some x0)
theorem e_X12_lesser : yX12_lesser.cls ≠ "java/lang/invoke/MethodHandle" ∧ yX12_lesser.cls ≠ "java/lang/invoke/VarHandle" ∧ (parseMethodDescriptor yX12_lesser.desc).map (fun d => d.parameters.length) = some 2 := by decide +kernel
set_option maxRecDepth 100000 in
set_option maxHeartbeats 4000000 in
theorem c_X12_lesser (x0 : Int32) (x1 : Int32) (h : PH) (r : Int32) (hf : f_X12_lesser x0 x1 h = some r) : Con yX12_lesser wsX12_lesser (rm_d 0) l0_B [.int x0, .int x1] h (some (.int r)) h := by

  refine con_i (ty := .int) (cc := cX12_lesser) (nL := 2) (by decide) rfl (Nat.le_of_ble_eq_true rfl) ?_
  intro C hC hret
  change Go l0_B C 0 0 0 [(0, .int x0), (1, .int x1)] [] h
  unfold f_X12_lesser at hf
  refine go_iload_n hC dX12_lesser_0 rfl 0 rfl ?_
  refine go_iload_n hC dX12_lesser_1 rfl 1 rfl ?_
  refine go_icmp_ge hC dX12_lesser_2 (tgt := 9) (by decide) (fun c_1 => ?_) (fun c_1 => ?_)
  · replace hf := if_t c_1 hf
    refine go_iload_n hC dX12_lesser_9 rfl 1 rfl ?_
    obtain rfl := so_1 hf
    exact hret _ _ rfl dX12_lesser_10
  · replace hf := if_f c_1 hf
    refine go_iload_n hC dX12_lesser_5 rfl 0 rfl ?_
    refine go_goto hC dX12_lesser_6 (tgt := 10) (by decide) ?_
    obtain rfl := so_1 hf
    exact hret _ _ rfl dX12_lesser_10
def lb_X12_told_17 (x0 : Int64) (x2 : Int64) (x4 : Int32) (h : PH) (x5 : Int64) (x7 : Int64) : Option ((Int64 × Int64) ⊕ (Int64 × Int64)) :=
  if (lg_cmp x7 0) = 0 then (
  some (.inr (x5, x7)))
  else (
  gz_l x7 (
  lt_b (x5 - x5 / x7 * x7) fun x9_5 =>
  some (.inl (x7, x9_5))))
def f_X12_told (x0 : Int64) (x2 : Int64) (x4 : Int32) (h : PH) : Option (Int64) :=
  if 0 ≤ (lg_cmp x0 0) then (
  bd_1 (lp_f (fun s => lb_X12_told_17 x0 x2 x4 h s.1 s.2) fu_l (x0, x2)) fun s_7 =>
  if x4 = 0 then (
  gz_l s_7.1 (
  some (x0 / s_7.1)))
  else (
  gz_l s_7.1 (
  some (x2 / s_7.1))))
  else (
  lt_b (-x0) fun x5_11 =>
  bd_1 (lp_f (fun s => lb_X12_told_17 x0 x2 x4 h s.1 s.2) fu_l (x5_11, x2)) fun s_12 =>
  if x4 = 0 then (
  gz_l s_12.1 (
  some (x0 / s_12.1)))
  else (
  gz_l s_12.1 (
  some (x2 / s_12.1))))
set_option maxRecDepth 100000 in
set_option maxHeartbeats 4000000 in
theorem lw_X12_told_17 {C : GC} (hC : Cx C cX12_told 11 wsX12_told RX12 (some .long) (rm_d 0)) (x0 : Int64) (x2 : Int64) (x4 : Int32) (h : PH) : ∀ (n9 : Nat) (x5 : Int64) (x7 : Int64) (y : Int64 × Int64), lp_f (fun s => lb_X12_told_17 x0 x2 x4 h s.1 s.2) n9 (x5, x7) = some y → ∀ (hk : Go l0_B C 0 0 42 [(0, .long x0), (2, .long x2), (4, .int x4), (5, .long y.1)] [] h), Go l0_B C 0 0 17 [(0, .long x0), (2, .long x2), (4, .int x4), (5, .long x5), (7, .long x7)] [] h := by

  intro n9
  induction n9 with
  | zero =>
    intro x5 x7 y hlp
    cases hlp
  | succ n9 ih =>
    intro x5 x7 y hlp hk
    obtain ⟨k9, z, hk9, hf, hy⟩ := lp_e hlp
    cases hk9
    replace hf : lb_X12_told_17 x0 x2 x4 h x5 x7 = some z := hf
    unfold lb_X12_told_17 at hf
    refine go_lload hC dX12_told_17 4 rfl ?_
    refine go_lconst hC dX12_told_19 (v := 0) rfl ?_
    refine go_lcmp hC dX12_told_20 ?_
    refine go_if_eq hC dX12_told_21 (tgt := 42) (by decide) (fun c_6 => ?_) (fun c_6 => ?_)
    · replace hf := if_t c_6 hf
      obtain rfl := so_1 hf
      obtain rfl := lp_x hy
      refine go_sub [0, 1, 2, 3] rfl ?_
      exact hk
    · replace hf := if_f c_6 hf
      refine go_lload hC dX12_told_24 3 rfl ?_
      refine go_lload hC dX12_told_26 4 rfl ?_
      obtain ⟨g_4, hf⟩ := gz_e2 hf
      refine go_lrem hC dX12_told_28 g_4 ?_
      obtain ⟨x9_5, ex9_5, hf⟩ := lt_e hf
      refine go_topl ex9_5 ?_
      refine go_lstore hC dX12_told_29 (Nat.le_of_ble_eq_true rfl) rfl ?_
      refine go_lload hC dX12_told_31 5 rfl ?_
      refine go_lstore hC dX12_told_33 (Nat.le_of_ble_eq_true rfl) rfl ?_
      refine go_lload hC dX12_told_35 1 rfl ?_
      refine go_lstore hC dX12_told_37 (Nat.le_of_ble_eq_true rfl) rfl ?_
      refine go_goto hC dX12_told_39 (tgt := 17) (by decide) ?_
      obtain rfl := so_1 hf
      refine go_sub [3, 4, 5, 1, 0] rfl ?_
      exact ih x7 x9_5 _ (lp_c hy) hk
theorem e_X12_told : yX12_told.cls ≠ "java/lang/invoke/MethodHandle" ∧ yX12_told.cls ≠ "java/lang/invoke/VarHandle" ∧ (parseMethodDescriptor yX12_told.desc).map (fun d => d.parameters.length) = some 3 := by decide +kernel
set_option maxRecDepth 100000 in
set_option maxHeartbeats 4000000 in
theorem c_X12_told (x0 : Int64) (x2 : Int64) (x4 : Int32) (h : PH) (r : Int64) (hf : f_X12_told x0 x2 x4 h = some r) : Con yX12_told wsX12_told (rm_d 0) l0_B [.long x0, .long x2, .int x4] h (some (.long r)) h := by

  refine con_l (cc := cX12_told) (nL := 11) (by decide) rfl (Nat.le_of_ble_eq_true rfl) ?_
  intro C hC hret
  change Go l0_B C 0 0 0 [(0, .long x0), (2, .long x2), (4, .int x4)] [] h
  unfold f_X12_told at hf
  refine go_lload_n hC dX12_told_0 rfl 0 rfl ?_
  refine go_lconst hC dX12_told_1 (v := 0) rfl ?_
  refine go_lcmp hC dX12_told_2 ?_
  refine go_if_ge hC dX12_told_3 (tgt := 11) (by decide) (fun c_16 => ?_) (fun c_16 => ?_)
  · replace hf := if_t c_16 hf
    refine go_lload_n hC dX12_told_11 rfl 0 rfl ?_
    refine go_lstore hC dX12_told_12 (Nat.le_of_ble_eq_true rfl) rfl ?_
    refine go_lload_n hC dX12_told_14 rfl 2 rfl ?_
    refine go_lstore hC dX12_told_15 (Nat.le_of_ble_eq_true rfl) rfl ?_
    obtain ⟨s_7, hl, hf⟩ := bd_e1 hf
    refine go_sub [2, 3, 4, 1, 0] rfl ?_
    refine lw_X12_told_17 hC x0 x2 x4 h _ x0 x2 s_7 hl ?_
    refine go_iload hC dX12_told_42 2 rfl ?_
    refine go_if_ne hC dX12_told_44 (tgt := 51) (by decide) (fun c_10 => ?_) (fun c_10 => ?_)
    · replace hf := if_f c_10 hf
      refine go_lload_n hC dX12_told_51 rfl 1 rfl ?_
      refine go_lload hC dX12_told_52 3 rfl ?_
      obtain ⟨g_8, hf⟩ := gz_e2 hf
      refine go_ldiv hC dX12_told_54 g_8 ?_
      obtain rfl := so_1 hf
      exact hret _ _ dX12_told_55
    · replace hf := if_t c_10 hf
      refine go_lload_n hC dX12_told_47 rfl 0 rfl ?_
      refine go_goto hC dX12_told_48 (tgt := 52) (by decide) ?_
      refine go_lload hC dX12_told_52 3 rfl ?_
      obtain ⟨g_9, hf⟩ := gz_e2 hf
      refine go_ldiv hC dX12_told_54 g_9 ?_
      obtain rfl := so_1 hf
      exact hret _ _ dX12_told_55
  · replace hf := if_f c_16 hf
    refine go_lload_n hC dX12_told_6 rfl 0 rfl ?_
    refine go_lneg hC dX12_told_7 ?_
    refine go_goto hC dX12_told_8 (tgt := 12) (by decide) ?_
    obtain ⟨x5_11, ex5_11, hf⟩ := lt_e hf
    refine go_topl ex5_11 ?_
    refine go_lstore hC dX12_told_12 (Nat.le_of_ble_eq_true rfl) rfl ?_
    refine go_lload_n hC dX12_told_14 rfl 2 rfl ?_
    refine go_lstore hC dX12_told_15 (Nat.le_of_ble_eq_true rfl) rfl ?_
    obtain ⟨s_12, hl, hf⟩ := bd_e1 hf
    refine go_sub [2, 3, 4, 1, 0] rfl ?_
    refine lw_X12_told_17 hC x0 x2 x4 h _ x5_11 x2 s_12 hl ?_
    refine go_iload hC dX12_told_42 2 rfl ?_
    refine go_if_ne hC dX12_told_44 (tgt := 51) (by decide) (fun c_15 => ?_) (fun c_15 => ?_)
    · replace hf := if_f c_15 hf
      refine go_lload_n hC dX12_told_51 rfl 1 rfl ?_
      refine go_lload hC dX12_told_52 3 rfl ?_
      obtain ⟨g_13, hf⟩ := gz_e2 hf
      refine go_ldiv hC dX12_told_54 g_13 ?_
      obtain rfl := so_1 hf
      exact hret _ _ dX12_told_55
    · replace hf := if_t c_15 hf
      refine go_lload_n hC dX12_told_47 rfl 0 rfl ?_
      refine go_goto hC dX12_told_48 (tgt := 52) (by decide) ?_
      refine go_lload hC dX12_told_52 3 rfl ?_
      obtain ⟨g_14, hf⟩ := gz_e2 hf
      refine go_ldiv hC dX12_told_54 g_14 ?_
      obtain rfl := so_1 hf
      exact hret _ _ dX12_told_55
def f_X12_refused (x1 : Int32) (h : PH) : Option (Int32 × PH) :=
  lt_b (ph_i h 43 0 0) fun h_1 =>
  some (x1, h_1)
theorem e_X12_refused : yX12_refused.cls = RX12 ∧ yX12_refused.cls ≠ "java/lang/invoke/MethodHandle" ∧ yX12_refused.cls ≠ "java/lang/invoke/VarHandle" ∧ (parseMethodDescriptor yX12_refused.desc).map (fun d => d.parameters.length) = some 1 := by decide +kernel
set_option maxRecDepth 100000 in
set_option maxHeartbeats 4000000 in
theorem c_X12_refused (x1 : Int32) (h : PH) (h2 : PH) (r : Int32) (hf : f_X12_refused x1 h = some (r, h2)) : Con yX12_refused wsX12_refused (rm_d 0) l0_B [.ref 43, .int x1] h (some (.int r)) h2 := by
  have hn12 : ∀ w ∈ wsX120, w ∈ wsX12_refused := (fun _ hw => (List.mem_cons_of_mem _ (List.mem_append_right _ hw)))
  refine con_i (ty := .int) (cc := cX12_refused) (nL := 2) (by decide) rfl (Nat.le_of_ble_eq_true rfl) ?_
  intro C hC hret
  change Go l0_B C 0 0 0 [(0, .ref 43), (1, .int x1)] [] h
  unfold f_X12_refused at hf
  refine go_aload_n hC dX12_refused_0 rfl 0 rfl ?_
  refine go_iconst hC dX12_refused_1 k1_0 ?_
  obtain ⟨h_1, eh_1, hf⟩ := lt_e hf
  refine go_puti hC tyX12 (j := 0) (idx := 95) (nm := "fault") (ds := "I") (b_43 _) rfl rfl hn12 tyX12_ok nmX12 (Nat.le_of_ble_eq_true rfl) rfl rfl (List.mem_cons_of_mem _ (List.mem_append_left _ (List.mem_of_getElem? (i := 0) rfl))) (Or.inl rfl) rfl (tyX12_ok _ (Nat.le_of_ble_eq_true rfl)) dX12_refused_2 ?_
  refine go_toph eh_1 ?_
  refine go_iload_n hC dX12_refused_5 rfl 1 rfl ?_
  obtain ⟨rfl, rfl⟩ := so_2 hf
  exact hret _ _ rfl dX12_refused_6
def f_X12_failed (x1 : Int32) (h : PH) : Option (Int32 × PH) :=
  lt_b (ph_i h 43 0 x1) fun h_1 =>
  some ((-10) - x1, h_1)
theorem e_X12_failed : yX12_failed.cls = RX12 ∧ yX12_failed.cls ≠ "java/lang/invoke/MethodHandle" ∧ yX12_failed.cls ≠ "java/lang/invoke/VarHandle" ∧ (parseMethodDescriptor yX12_failed.desc).map (fun d => d.parameters.length) = some 1 := by decide +kernel
set_option maxRecDepth 100000 in
set_option maxHeartbeats 4000000 in
theorem c_X12_failed (x1 : Int32) (h : PH) (h2 : PH) (r : Int32) (hf : f_X12_failed x1 h = some (r, h2)) : Con yX12_failed wsX12_failed (rm_d 0) l0_B [.ref 43, .int x1] h (some (.int r)) h2 := by
  have hn12 : ∀ w ∈ wsX120, w ∈ wsX12_failed := (fun _ hw => (List.mem_cons_of_mem _ (List.mem_append_right _ hw)))
  refine con_i (ty := .int) (cc := cX12_failed) (nL := 2) (by decide) rfl (Nat.le_of_ble_eq_true rfl) ?_
  intro C hC hret
  change Go l0_B C 0 0 0 [(0, .ref 43), (1, .int x1)] [] h
  unfold f_X12_failed at hf
  refine go_aload_n hC dX12_failed_0 rfl 0 rfl ?_
  refine go_iload_n hC dX12_failed_1 rfl 1 rfl ?_
  obtain ⟨h_1, eh_1, hf⟩ := lt_e hf
  refine go_puti hC tyX12 (j := 0) (idx := 95) (nm := "fault") (ds := "I") (b_43 _) rfl rfl hn12 tyX12_ok nmX12 (Nat.le_of_ble_eq_true rfl) rfl rfl (List.mem_cons_of_mem _ (List.mem_append_left _ (List.mem_of_getElem? (i := 0) rfl))) (Or.inl rfl) rfl (tyX12_ok _ (Nat.le_of_ble_eq_true rfl)) dX12_failed_2 ?_
  refine go_toph eh_1 ?_
  refine go_bipush hC dX12_failed_5 k8_m10 ?_
  refine go_iload_n hC dX12_failed_7 rfl 1 rfl ?_
  refine go_isub hC dX12_failed_8 ?_
  obtain ⟨rfl, rfl⟩ := so_2 hf
  exact hret _ _ rfl dX12_failed_9
def f_X12_failedLong (x1 : Int32) (h : PH) : Option (Int64 × PH) :=
  lt_b (ph_i h 43 0 x1) fun h_1 =>
  bd_1 (f_X12_lost h_1) fun r_2 =>
  some (r_2, h_1)
theorem e_X12_failedLong : yX12_failedLong.cls = RX12 ∧ yX12_failedLong.cls ≠ "java/lang/invoke/MethodHandle" ∧ yX12_failedLong.cls ≠ "java/lang/invoke/VarHandle" ∧ (parseMethodDescriptor yX12_failedLong.desc).map (fun d => d.parameters.length) = some 1 := by decide +kernel
set_option maxRecDepth 100000 in
set_option maxHeartbeats 4000000 in
theorem c_X12_failedLong (x1 : Int32) (h : PH) (h2 : PH) (r : Int64) (hf : f_X12_failedLong x1 h = some (r, h2)) : Con yX12_failedLong wsX12_failedLong (rm_d 1) l0_B [.ref 43, .int x1] h (some (.long r)) h2 := by
  have hn12 : ∀ w ∈ wsX120, w ∈ wsX12_failedLong := (fun _ hw => (List.mem_cons_of_mem _ (List.mem_append_right _ hw)))
  refine con_l (cc := cX12_failedLong) (nL := 2) (by decide) rfl (Nat.le_of_ble_eq_true rfl) ?_
  intro C hC hret
  change Go l0_B C 0 0 0 [(0, .ref 43), (1, .int x1)] [] h
  unfold f_X12_failedLong at hf
  refine go_aload_n hC dX12_failedLong_0 rfl 0 rfl ?_
  refine go_iload_n hC dX12_failedLong_1 rfl 1 rfl ?_
  obtain ⟨h_1, eh_1, hf⟩ := lt_e hf
  refine go_puti hC tyX12 (j := 0) (idx := 95) (nm := "fault") (ds := "I") (b_43 _) rfl rfl hn12 tyX12_ok nmX12 (Nat.le_of_ble_eq_true rfl) rfl rfl (List.mem_cons_of_mem _ (List.mem_append_left _ (List.mem_of_getElem? (i := 0) rfl))) (Or.inl rfl) rfl (tyX12_ok _ (Nat.le_of_ble_eq_true rfl)) dX12_failedLong_2 ?_
  refine go_toph eh_1 ?_
  obtain ⟨r_2, hc, hf⟩ := bd_e1 hf
  refine go_callS hC (c_X12_lost h_1 r_2 hc) gX12_failedLong_X12_lost rfl ⟨rfl, rfl⟩ 0 e_X12_lost ⟨Nat.le_of_ble_eq_true rfl, Nat.le_of_ble_eq_true rfl⟩ rfl (st := []) (st1 := [.long r_2]) rfl rfl (Nat.le_of_ble_eq_true rfl) ⟨Nat.zero_le _, Nat.zero_le _⟩ dX12_failedLong_5 ?_
  obtain ⟨rfl, rfl⟩ := so_2 hf
  exact hret _ _ dX12_failedLong_8
def f_X12_isLane (x0 : Int32) (h : PH) : Option (Int32) :=
  bd_1 (f_X12_in x0.toInt64 0 2 h) fun r_1 =>
  gb_i r_1 (
  some r_1)
theorem e_X12_isLane : yX12_isLane.cls ≠ "java/lang/invoke/MethodHandle" ∧ yX12_isLane.cls ≠ "java/lang/invoke/VarHandle" ∧ (parseMethodDescriptor yX12_isLane.desc).map (fun d => d.parameters.length) = some 1 := by decide +kernel
set_option maxRecDepth 100000 in
set_option maxHeartbeats 4000000 in
theorem c_X12_isLane (x0 : Int32) (h : PH) (r : Int32) (hf : f_X12_isLane x0 h = some r) : Con yX12_isLane wsX12_isLane (rm_d 1) l0_B [.int x0] h (some (.int r)) h := by

  refine con_i (ty := .boolean) (cc := cX12_isLane) (nL := 1) (by decide) rfl (Nat.le_of_ble_eq_true rfl) ?_
  intro C hC hret
  change Go l0_B C 0 0 0 [(0, .int x0)] [] h
  unfold f_X12_isLane at hf
  refine go_iload_n hC dX12_isLane_0 rfl 0 rfl ?_
  refine go_i2l hC dX12_isLane_1 ?_
  refine go_lconst hC dX12_isLane_2 (v := 0) rfl ?_
  refine go_ldc2 hC (v := 2) (List.mem_cons_of_mem _ (List.mem_of_getElem? (i := 0) rfl)) dX12_isLane_3 ?_
  obtain ⟨r_1, hc, hf⟩ := bd_e1 hf
  refine go_callS hC (c_X12_in x0.toInt64 0 2 h r_1 hc) gX12_isLane_X12_in rfl ⟨rfl, rfl⟩ 3 e_X12_in ⟨Nat.le_of_ble_eq_true rfl, Nat.le_of_ble_eq_true rfl⟩ rfl (st := []) (st1 := [.int r_1]) rfl rfl (Nat.le_of_ble_eq_true rfl) ⟨Nat.zero_le _, Nat.zero_le _⟩ dX12_isLane_6 ?_
  obtain ⟨g_2, hf⟩ := gb_e hf
  obtain rfl := so_1 hf
  exact hret _ _ (zo_n g_2) dX12_isLane_9
def f_X12_isBeyond (x0 : Int32) (x1 : Int64) (x3 : Int32) (h : PH) : Option (Int32) :=
  if x0 < 0 then (
  some 1)
  else (
  if (lg_cmp x1 0) < 0 then (
  some 1)
  else (
  if (lg_cmp (x0.toInt64 + x1) x3.toInt64) ≤ 0 then (
  some 0)
  else (
  some 1)))
theorem e_X12_isBeyond : yX12_isBeyond.cls ≠ "java/lang/invoke/MethodHandle" ∧ yX12_isBeyond.cls ≠ "java/lang/invoke/VarHandle" ∧ (parseMethodDescriptor yX12_isBeyond.desc).map (fun d => d.parameters.length) = some 3 := by decide +kernel
set_option maxRecDepth 100000 in
set_option maxHeartbeats 4000000 in
theorem c_X12_isBeyond (x0 : Int32) (x1 : Int64) (x3 : Int32) (h : PH) (r : Int32) (hf : f_X12_isBeyond x0 x1 x3 h = some r) : Con yX12_isBeyond wsX12_isBeyond (rm_d 0) l0_B [.int x0, .long x1, .int x3] h (some (.int r)) h := by

  refine con_i (ty := .boolean) (cc := cX12_isBeyond) (nL := 4) (by decide) rfl (Nat.le_of_ble_eq_true rfl) ?_
  intro C hC hret
  change Go l0_B C 0 0 0 [(0, .int x0), (1, .long x1), (3, .int x3)] [] h
  unfold f_X12_isBeyond at hf
  refine go_iload_n hC dX12_isBeyond_0 rfl 0 rfl ?_
  refine go_if_lt hC dX12_isBeyond_1 (tgt := 20) (by decide) (fun c_3 => ?_) (fun c_3 => ?_)
  · replace hf := if_t c_3 hf
    refine go_iconst hC dX12_isBeyond_20 k1_1 ?_
    refine go_goto hC dX12_isBeyond_21 (tgt := 25) (by decide) ?_
    obtain rfl := so_1 hf
    exact hret _ _ (zo_n (Or.inr rfl)) dX12_isBeyond_25
  · replace hf := if_f c_3 hf
    refine go_lload_n hC dX12_isBeyond_4 rfl 1 rfl ?_
    refine go_lconst hC dX12_isBeyond_5 (v := 0) rfl ?_
    refine go_lcmp hC dX12_isBeyond_6 ?_
    refine go_if_lt hC dX12_isBeyond_7 (tgt := 20) (by decide) (fun c_2 => ?_) (fun c_2 => ?_)
    · replace hf := if_t c_2 hf
      refine go_iconst hC dX12_isBeyond_20 k1_1 ?_
      refine go_goto hC dX12_isBeyond_21 (tgt := 25) (by decide) ?_
      obtain rfl := so_1 hf
      exact hret _ _ (zo_n (Or.inr rfl)) dX12_isBeyond_25
    · replace hf := if_f c_2 hf
      refine go_iload_n hC dX12_isBeyond_10 rfl 0 rfl ?_
      refine go_i2l hC dX12_isBeyond_11 ?_
      refine go_lload_n hC dX12_isBeyond_12 rfl 1 rfl ?_
      refine go_ladd hC dX12_isBeyond_13 ?_
      refine go_iload_n hC dX12_isBeyond_14 rfl 2 rfl ?_
      refine go_i2l hC dX12_isBeyond_15 ?_
      refine go_lcmp hC dX12_isBeyond_16 ?_
      refine go_if_le hC dX12_isBeyond_17 (tgt := 24) (by decide) (fun c_1 => ?_) (fun c_1 => ?_)
      · replace hf := if_t c_1 hf
        refine go_iconst hC dX12_isBeyond_24 k1_0 ?_
        obtain rfl := so_1 hf
        exact hret _ _ (zo_n (Or.inl rfl)) dX12_isBeyond_25
      · replace hf := if_f c_1 hf
        refine go_iconst hC dX12_isBeyond_20 k1_1 ?_
        refine go_goto hC dX12_isBeyond_21 (tgt := 25) (by decide) ?_
        obtain rfl := so_1 hf
        exact hret _ _ (zo_n (Or.inr rfl)) dX12_isBeyond_25
def f_X12_barred (x1 : Int32) (x2 : Int32) (x3 : Int32) (x4 : Int64) (h : PH) : Option (Int32 × PH) :=
  ga_i x1 4 (
  if (h.1 67 x1.toNatClampNeg) < 0 then (
  ga_i x1 4 (
  if 0 ≤ (h.1 67 x1.toNatClampNeg) then (
  if 0 ≤ (lg_cmp x4 0) then (
  ga_i x1 4 (
  bd_1 (f_X12_isBeyond x3 x4 (h.1 67 x1.toNatClampNeg) h) fun r_4 =>
  if r_4 = 0 then (
  some (0, h))
  else (
  bd_2 (f_X12_failed 3 h) fun r_5 h_6 =>
  some (r_5, h_6))))
  else (
  bd_2 (f_X12_failed 4 h) fun r_8 h_9 =>
  some (r_8, h_9)))
  else (
  bd_2 (f_X12_failed 1 h) fun r_11 h_12 =>
  some (r_11, h_12))))
  else (
  ga_i x1 4 (
  if (h.1 68 x1.toNatClampNeg) = x2 then (
  ga_i x1 4 (
  if 0 ≤ (h.1 67 x1.toNatClampNeg) then (
  if 0 ≤ (lg_cmp x4 0) then (
  ga_i x1 4 (
  bd_1 (f_X12_isBeyond x3 x4 (h.1 67 x1.toNatClampNeg) h) fun r_17 =>
  if r_17 = 0 then (
  some (0, h))
  else (
  bd_2 (f_X12_failed 3 h) fun r_18 h_19 =>
  some (r_18, h_19))))
  else (
  bd_2 (f_X12_failed 4 h) fun r_21 h_22 =>
  some (r_21, h_22)))
  else (
  bd_2 (f_X12_failed 1 h) fun r_24 h_25 =>
  some (r_24, h_25))))
  else (
  bd_2 (f_X12_failed 2 h) fun r_27 h_28 =>
  some (r_27, h_28)))))
theorem e_X12_barred : yX12_barred.cls = RX12 ∧ yX12_barred.cls ≠ "java/lang/invoke/MethodHandle" ∧ yX12_barred.cls ≠ "java/lang/invoke/VarHandle" ∧ (parseMethodDescriptor yX12_barred.desc).map (fun d => d.parameters.length) = some 4 := by decide +kernel
set_option maxRecDepth 100000 in
set_option maxHeartbeats 4000000 in
theorem c_X12_barred (x1 : Int32) (x2 : Int32) (x3 : Int32) (x4 : Int64) (h : PH) (h2 : PH) (r : Int32) (hf : f_X12_barred x1 x2 x3 x4 h = some (r, h2)) : Con yX12_barred wsX12_barred (rm_d 1) l0_B [.ref 43, .int x1, .int x2, .int x3, .long x4] h (some (.int r)) h2 := by
  have hn12 : ∀ w ∈ wsX120, w ∈ wsX12_barred := (fun _ hw => (List.mem_cons_of_mem _ (List.mem_append_right _ hw)))
  refine con_i (ty := .int) (cc := cX12_barred) (nL := 6) (by decide) rfl (Nat.le_of_ble_eq_true rfl) ?_
  intro C hC hret
  change Go l0_B C 0 0 0 [(0, .ref 43), (1, .int x1), (2, .int x2), (3, .int x3), (4, .long x4)] [] h
  unfold f_X12_barred at hf
  refine go_aload_n hC dX12_barred_0 rfl 0 rfl ?_
  refine go_getr hC (j := 40) (idx := 81) (nm := "sheetSize") (ds := "[I") (b_43 _) rfl rfl hn12 (Nat.le_of_ble_eq_true rfl) rfl rfl (List.mem_cons_of_mem _ (List.mem_append_left _ (List.mem_of_getElem? (i := 0) rfl))) (Or.inl rfl) dX12_barred_1 ?_
  refine go_iload_n hC dX12_barred_4 rfl 1 rfl ?_
  obtain ⟨g_1, hf⟩ := ga_e hf
  refine go_iald hC (b_67 _) g_1 dX12_barred_5 ?_
  refine go_if_lt hC dX12_barred_6 (tgt := 25) (by decide) (fun c_30 => ?_) (fun c_30 => ?_)
  · replace hf := if_t c_30 hf
    refine go_aload_n hC dX12_barred_25 rfl 0 rfl ?_
    refine go_getr hC (j := 40) (idx := 81) (nm := "sheetSize") (ds := "[I") (b_43 _) rfl rfl hn12 (Nat.le_of_ble_eq_true rfl) rfl rfl (List.mem_cons_of_mem _ (List.mem_append_left _ (List.mem_of_getElem? (i := 0) rfl))) (Or.inl rfl) dX12_barred_26 ?_
    refine go_iload_n hC dX12_barred_29 rfl 1 rfl ?_
    obtain ⟨g_2, hf⟩ := ga_e hf
    refine go_iald hC (b_67 _) g_2 dX12_barred_30 ?_
    refine go_if_ge hC dX12_barred_31 (tgt := 40) (by decide) (fun c_13 => ?_) (fun c_13 => ?_)
    · replace hf := if_t c_13 hf
      refine go_lload hC dX12_barred_40 4 rfl ?_
      refine go_lconst hC dX12_barred_42 (v := 0) rfl ?_
      refine go_lcmp hC dX12_barred_43 ?_
      refine go_if_ge hC dX12_barred_44 (tgt := 53) (by decide) (fun c_10 => ?_) (fun c_10 => ?_)
      · replace hf := if_t c_10 hf
        refine go_iload_n hC dX12_barred_53 rfl 3 rfl ?_
        refine go_lload hC dX12_barred_54 4 rfl ?_
        refine go_aload_n hC dX12_barred_56 rfl 0 rfl ?_
        refine go_getr hC (j := 40) (idx := 81) (nm := "sheetSize") (ds := "[I") (b_43 _) rfl rfl hn12 (Nat.le_of_ble_eq_true rfl) rfl rfl (List.mem_cons_of_mem _ (List.mem_append_left _ (List.mem_of_getElem? (i := 0) rfl))) (Or.inl rfl) dX12_barred_57 ?_
        refine go_iload_n hC dX12_barred_60 rfl 1 rfl ?_
        obtain ⟨g_3, hf⟩ := ga_e hf
        refine go_iald hC (b_67 _) g_3 dX12_barred_61 ?_
        obtain ⟨r_4, hc, hf⟩ := bd_e1 hf
        refine go_callS hC (c_X12_isBeyond x3 x4 (h.1 67 x1.toNatClampNeg) h r_4 hc) gX12_barred_X12_isBeyond rfl ⟨rfl, rfl⟩ 3 e_X12_isBeyond ⟨Nat.le_of_ble_eq_true rfl, Nat.le_of_ble_eq_true rfl⟩ rfl (st := []) (st1 := [.int r_4]) rfl rfl (Nat.le_of_ble_eq_true rfl) ⟨Nat.zero_le _, Nat.zero_le _⟩ dX12_barred_62 ?_
        refine go_if_eq hC dX12_barred_65 (tgt := 76) (by decide) (fun c_7 => ?_) (fun c_7 => ?_)
        · replace hf := if_t c_7 hf
          refine go_iconst hC dX12_barred_76 k1_0 ?_
          obtain ⟨rfl, rfl⟩ := so_2 hf
          exact hret _ _ rfl dX12_barred_77
        · replace hf := if_f c_7 hf
          refine go_aload_n hC dX12_barred_68 rfl 0 rfl ?_
          refine go_iconst hC dX12_barred_69 k1_3 ?_
          obtain ⟨r_5, h_6, hc, hf⟩ := bd_e2 hf
          refine go_callV hC (c_X12_failed 3 h h_6 r_5 hc) gX12_barred_X12_failed rfl ⟨rfl, rfl⟩ 1 e_X12_failed ⟨Nat.le_of_ble_eq_true rfl, Nat.le_of_ble_eq_true rfl⟩ (b_43 _) rfl rfl (st := []) (st1 := [.int r_5]) rfl rfl (Nat.le_of_ble_eq_true rfl) ⟨Nat.zero_le _, Nat.zero_le _⟩ dX12_barred_70 ?_
          refine go_goto hC dX12_barred_73 (tgt := 77) (by decide) ?_
          obtain ⟨rfl, rfl⟩ := so_2 hf
          exact hret _ _ rfl dX12_barred_77
      · replace hf := if_f c_10 hf
        refine go_aload_n hC dX12_barred_47 rfl 0 rfl ?_
        refine go_iconst hC dX12_barred_48 k1_4 ?_
        obtain ⟨r_8, h_9, hc, hf⟩ := bd_e2 hf
        refine go_callV hC (c_X12_failed 4 h h_9 r_8 hc) gX12_barred_X12_failed rfl ⟨rfl, rfl⟩ 1 e_X12_failed ⟨Nat.le_of_ble_eq_true rfl, Nat.le_of_ble_eq_true rfl⟩ (b_43 _) rfl rfl (st := []) (st1 := [.int r_8]) rfl rfl (Nat.le_of_ble_eq_true rfl) ⟨Nat.zero_le _, Nat.zero_le _⟩ dX12_barred_49 ?_
        obtain ⟨rfl, rfl⟩ := so_2 hf
        exact hret _ _ rfl dX12_barred_52
    · replace hf := if_f c_13 hf
      refine go_aload_n hC dX12_barred_34 rfl 0 rfl ?_
      refine go_iconst hC dX12_barred_35 k1_1 ?_
      obtain ⟨r_11, h_12, hc, hf⟩ := bd_e2 hf
      refine go_callV hC (c_X12_failed 1 h h_12 r_11 hc) gX12_barred_X12_failed rfl ⟨rfl, rfl⟩ 1 e_X12_failed ⟨Nat.le_of_ble_eq_true rfl, Nat.le_of_ble_eq_true rfl⟩ (b_43 _) rfl rfl (st := []) (st1 := [.int r_11]) rfl rfl (Nat.le_of_ble_eq_true rfl) ⟨Nat.zero_le _, Nat.zero_le _⟩ dX12_barred_36 ?_
      obtain ⟨rfl, rfl⟩ := so_2 hf
      exact hret _ _ rfl dX12_barred_39
  · replace hf := if_f c_30 hf
    refine go_aload_n hC dX12_barred_9 rfl 0 rfl ?_
    refine go_getr hC (j := 41) (idx := 84) (nm := "sheetLane") (ds := "[I") (b_43 _) rfl rfl hn12 (Nat.le_of_ble_eq_true rfl) rfl rfl (List.mem_cons_of_mem _ (List.mem_append_left _ (List.mem_of_getElem? (i := 1) rfl))) (Or.inl rfl) dX12_barred_10 ?_
    refine go_iload_n hC dX12_barred_13 rfl 1 rfl ?_
    obtain ⟨g_14, hf⟩ := ga_e hf
    refine go_iald hC (b_68 _) g_14 dX12_barred_14 ?_
    refine go_iload_n hC dX12_barred_15 rfl 2 rfl ?_
    refine go_icmp_eq hC dX12_barred_16 (tgt := 25) (by decide) (fun c_29 => ?_) (fun c_29 => ?_)
    · replace hf := if_t c_29 hf
      refine go_aload_n hC dX12_barred_25 rfl 0 rfl ?_
      refine go_getr hC (j := 40) (idx := 81) (nm := "sheetSize") (ds := "[I") (b_43 _) rfl rfl hn12 (Nat.le_of_ble_eq_true rfl) rfl rfl (List.mem_cons_of_mem _ (List.mem_append_left _ (List.mem_of_getElem? (i := 0) rfl))) (Or.inl rfl) dX12_barred_26 ?_
      refine go_iload_n hC dX12_barred_29 rfl 1 rfl ?_
      obtain ⟨g_15, hf⟩ := ga_e hf
      refine go_iald hC (b_67 _) g_15 dX12_barred_30 ?_
      refine go_if_ge hC dX12_barred_31 (tgt := 40) (by decide) (fun c_26 => ?_) (fun c_26 => ?_)
      · replace hf := if_t c_26 hf
        refine go_lload hC dX12_barred_40 4 rfl ?_
        refine go_lconst hC dX12_barred_42 (v := 0) rfl ?_
        refine go_lcmp hC dX12_barred_43 ?_
        refine go_if_ge hC dX12_barred_44 (tgt := 53) (by decide) (fun c_23 => ?_) (fun c_23 => ?_)
        · replace hf := if_t c_23 hf
          refine go_iload_n hC dX12_barred_53 rfl 3 rfl ?_
          refine go_lload hC dX12_barred_54 4 rfl ?_
          refine go_aload_n hC dX12_barred_56 rfl 0 rfl ?_
          refine go_getr hC (j := 40) (idx := 81) (nm := "sheetSize") (ds := "[I") (b_43 _) rfl rfl hn12 (Nat.le_of_ble_eq_true rfl) rfl rfl (List.mem_cons_of_mem _ (List.mem_append_left _ (List.mem_of_getElem? (i := 0) rfl))) (Or.inl rfl) dX12_barred_57 ?_
          refine go_iload_n hC dX12_barred_60 rfl 1 rfl ?_
          obtain ⟨g_16, hf⟩ := ga_e hf
          refine go_iald hC (b_67 _) g_16 dX12_barred_61 ?_
          obtain ⟨r_17, hc, hf⟩ := bd_e1 hf
          refine go_callS hC (c_X12_isBeyond x3 x4 (h.1 67 x1.toNatClampNeg) h r_17 hc) gX12_barred_X12_isBeyond rfl ⟨rfl, rfl⟩ 3 e_X12_isBeyond ⟨Nat.le_of_ble_eq_true rfl, Nat.le_of_ble_eq_true rfl⟩ rfl (st := []) (st1 := [.int r_17]) rfl rfl (Nat.le_of_ble_eq_true rfl) ⟨Nat.zero_le _, Nat.zero_le _⟩ dX12_barred_62 ?_
          refine go_if_eq hC dX12_barred_65 (tgt := 76) (by decide) (fun c_20 => ?_) (fun c_20 => ?_)
          · replace hf := if_t c_20 hf
            refine go_iconst hC dX12_barred_76 k1_0 ?_
            obtain ⟨rfl, rfl⟩ := so_2 hf
            exact hret _ _ rfl dX12_barred_77
          · replace hf := if_f c_20 hf
            refine go_aload_n hC dX12_barred_68 rfl 0 rfl ?_
            refine go_iconst hC dX12_barred_69 k1_3 ?_
            obtain ⟨r_18, h_19, hc, hf⟩ := bd_e2 hf
            refine go_callV hC (c_X12_failed 3 h h_19 r_18 hc) gX12_barred_X12_failed rfl ⟨rfl, rfl⟩ 1 e_X12_failed ⟨Nat.le_of_ble_eq_true rfl, Nat.le_of_ble_eq_true rfl⟩ (b_43 _) rfl rfl (st := []) (st1 := [.int r_18]) rfl rfl (Nat.le_of_ble_eq_true rfl) ⟨Nat.zero_le _, Nat.zero_le _⟩ dX12_barred_70 ?_
            refine go_goto hC dX12_barred_73 (tgt := 77) (by decide) ?_
            obtain ⟨rfl, rfl⟩ := so_2 hf
            exact hret _ _ rfl dX12_barred_77
        · replace hf := if_f c_23 hf
          refine go_aload_n hC dX12_barred_47 rfl 0 rfl ?_
          refine go_iconst hC dX12_barred_48 k1_4 ?_
          obtain ⟨r_21, h_22, hc, hf⟩ := bd_e2 hf
          refine go_callV hC (c_X12_failed 4 h h_22 r_21 hc) gX12_barred_X12_failed rfl ⟨rfl, rfl⟩ 1 e_X12_failed ⟨Nat.le_of_ble_eq_true rfl, Nat.le_of_ble_eq_true rfl⟩ (b_43 _) rfl rfl (st := []) (st1 := [.int r_21]) rfl rfl (Nat.le_of_ble_eq_true rfl) ⟨Nat.zero_le _, Nat.zero_le _⟩ dX12_barred_49 ?_
          obtain ⟨rfl, rfl⟩ := so_2 hf
          exact hret _ _ rfl dX12_barred_52
      · replace hf := if_f c_26 hf
        refine go_aload_n hC dX12_barred_34 rfl 0 rfl ?_
        refine go_iconst hC dX12_barred_35 k1_1 ?_
        obtain ⟨r_24, h_25, hc, hf⟩ := bd_e2 hf
        refine go_callV hC (c_X12_failed 1 h h_25 r_24 hc) gX12_barred_X12_failed rfl ⟨rfl, rfl⟩ 1 e_X12_failed ⟨Nat.le_of_ble_eq_true rfl, Nat.le_of_ble_eq_true rfl⟩ (b_43 _) rfl rfl (st := []) (st1 := [.int r_24]) rfl rfl (Nat.le_of_ble_eq_true rfl) ⟨Nat.zero_le _, Nat.zero_le _⟩ dX12_barred_36 ?_
        obtain ⟨rfl, rfl⟩ := so_2 hf
        exact hret _ _ rfl dX12_barred_39
    · replace hf := if_f c_29 hf
      refine go_aload_n hC dX12_barred_19 rfl 0 rfl ?_
      refine go_iconst hC dX12_barred_20 k1_2 ?_
      obtain ⟨r_27, h_28, hc, hf⟩ := bd_e2 hf
      refine go_callV hC (c_X12_failed 2 h h_28 r_27 hc) gX12_barred_X12_failed rfl ⟨rfl, rfl⟩ 1 e_X12_failed ⟨Nat.le_of_ble_eq_true rfl, Nat.le_of_ble_eq_true rfl⟩ (b_43 _) rfl rfl (st := []) (st1 := [.int r_27]) rfl rfl (Nat.le_of_ble_eq_true rfl) ⟨Nat.zero_le _, Nat.zero_le _⟩ dX12_barred_21 ?_
      obtain ⟨rfl, rfl⟩ := so_2 hf
      exact hret _ _ rfl dX12_barred_24
def f_X12_noPlace (x1 : Int32) (h : PH) : Option (Int32) :=
  bd_1 (f_X12_in x1.toInt64 0 (((h.1 43 1).toInt64) - 1) h) fun r_1 =>
  if r_1 = 0 then (
  some 1)
  else (
  some 0)
theorem e_X12_noPlace : yX12_noPlace.cls = RX12 ∧ yX12_noPlace.cls ≠ "java/lang/invoke/MethodHandle" ∧ yX12_noPlace.cls ≠ "java/lang/invoke/VarHandle" ∧ (parseMethodDescriptor yX12_noPlace.desc).map (fun d => d.parameters.length) = some 1 := by decide +kernel
set_option maxRecDepth 100000 in
set_option maxHeartbeats 4000000 in
theorem c_X12_noPlace (x1 : Int32) (h : PH) (r : Int32) (hf : f_X12_noPlace x1 h = some r) : Con yX12_noPlace wsX12_noPlace (rm_d 1) l0_B [.ref 43, .int x1] h (some (.int r)) h := by
  have hn12 : ∀ w ∈ wsX120, w ∈ wsX12_noPlace := (fun _ hw => (List.mem_cons_of_mem _ (List.mem_append_right _ hw)))
  refine con_i (ty := .boolean) (cc := cX12_noPlace) (nL := 2) (by decide) rfl (Nat.le_of_ble_eq_true rfl) ?_
  intro C hC hret
  change Go l0_B C 0 0 0 [(0, .ref 43), (1, .int x1)] [] h
  unfold f_X12_noPlace at hf
  refine go_iload_n hC dX12_noPlace_0 rfl 1 rfl ?_
  refine go_i2l hC dX12_noPlace_1 ?_
  refine go_lconst hC dX12_noPlace_2 (v := 0) rfl ?_
  refine go_aload_n hC dX12_noPlace_3 rfl 0 rfl ?_
  refine go_geti hC (j := 1) (idx := 117) (nm := "places") (ds := "I") (b_43 _) rfl rfl hn12 (Nat.le_of_ble_eq_true rfl) rfl rfl (List.mem_cons_of_mem _ (List.mem_append_left _ (List.mem_of_getElem? (i := 0) rfl))) (Or.inl rfl) dX12_noPlace_4 ?_
  refine go_i2l hC dX12_noPlace_7 ?_
  refine go_lconst hC dX12_noPlace_8 (v := 1) rfl ?_
  refine go_lsub hC dX12_noPlace_9 ?_
  obtain ⟨r_1, hc, hf⟩ := bd_e1 hf
  refine go_callS hC (c_X12_in x1.toInt64 0 (((h.1 43 1).toInt64) - 1) h r_1 hc) gX12_noPlace_X12_in rfl ⟨rfl, rfl⟩ 3 e_X12_in ⟨Nat.le_of_ble_eq_true rfl, Nat.le_of_ble_eq_true rfl⟩ rfl (st := []) (st1 := [.int r_1]) rfl rfl (Nat.le_of_ble_eq_true rfl) ⟨Nat.zero_le _, Nat.zero_le _⟩ dX12_noPlace_10 ?_
  refine go_if_ne hC dX12_noPlace_13 (tgt := 20) (by decide) (fun c_2 => ?_) (fun c_2 => ?_)
  · replace hf := if_f c_2 hf
    refine go_iconst hC dX12_noPlace_20 k1_0 ?_
    obtain rfl := so_1 hf
    exact hret _ _ (zo_n (Or.inl rfl)) dX12_noPlace_21
  · replace hf := if_t c_2 hf
    refine go_iconst hC dX12_noPlace_16 k1_1 ?_
    refine go_goto hC dX12_noPlace_17 (tgt := 21) (by decide) ?_
    obtain rfl := so_1 hf
    exact hret _ _ (zo_n (Or.inr rfl)) dX12_noPlace_21
def f_X12_noRun (x1 : Int32) (h : PH) : Option (Int32) :=
  bd_1 (f_X12_in x1.toInt64 0 (((h.1 43 3).toInt64) - 1) h) fun r_1 =>
  if r_1 = 0 then (
  some 1)
  else (
  some 0)
theorem e_X12_noRun : yX12_noRun.cls = RX12 ∧ yX12_noRun.cls ≠ "java/lang/invoke/MethodHandle" ∧ yX12_noRun.cls ≠ "java/lang/invoke/VarHandle" ∧ (parseMethodDescriptor yX12_noRun.desc).map (fun d => d.parameters.length) = some 1 := by decide +kernel
set_option maxRecDepth 100000 in
set_option maxHeartbeats 4000000 in
theorem c_X12_noRun (x1 : Int32) (h : PH) (r : Int32) (hf : f_X12_noRun x1 h = some r) : Con yX12_noRun wsX12_noRun (rm_d 1) l0_B [.ref 43, .int x1] h (some (.int r)) h := by
  have hn12 : ∀ w ∈ wsX120, w ∈ wsX12_noRun := (fun _ hw => (List.mem_cons_of_mem _ (List.mem_append_right _ hw)))
  refine con_i (ty := .boolean) (cc := cX12_noRun) (nL := 2) (by decide) rfl (Nat.le_of_ble_eq_true rfl) ?_
  intro C hC hret
  change Go l0_B C 0 0 0 [(0, .ref 43), (1, .int x1)] [] h
  unfold f_X12_noRun at hf
  refine go_iload_n hC dX12_noRun_0 rfl 1 rfl ?_
  refine go_i2l hC dX12_noRun_1 ?_
  refine go_lconst hC dX12_noRun_2 (v := 0) rfl ?_
  refine go_aload_n hC dX12_noRun_3 rfl 0 rfl ?_
  refine go_geti hC (j := 3) (idx := 120) (nm := "runs") (ds := "I") (b_43 _) rfl rfl hn12 (Nat.le_of_ble_eq_true rfl) rfl rfl (List.mem_cons_of_mem _ (List.mem_append_left _ (List.mem_of_getElem? (i := 0) rfl))) (Or.inl rfl) dX12_noRun_4 ?_
  refine go_i2l hC dX12_noRun_7 ?_
  refine go_lconst hC dX12_noRun_8 (v := 1) rfl ?_
  refine go_lsub hC dX12_noRun_9 ?_
  obtain ⟨r_1, hc, hf⟩ := bd_e1 hf
  refine go_callS hC (c_X12_in x1.toInt64 0 (((h.1 43 3).toInt64) - 1) h r_1 hc) gX12_noRun_X12_in rfl ⟨rfl, rfl⟩ 3 e_X12_in ⟨Nat.le_of_ble_eq_true rfl, Nat.le_of_ble_eq_true rfl⟩ rfl (st := []) (st1 := [.int r_1]) rfl rfl (Nat.le_of_ble_eq_true rfl) ⟨Nat.zero_le _, Nat.zero_le _⟩ dX12_noRun_10 ?_
  refine go_if_ne hC dX12_noRun_13 (tgt := 20) (by decide) (fun c_2 => ?_) (fun c_2 => ?_)
  · replace hf := if_f c_2 hf
    refine go_iconst hC dX12_noRun_20 k1_0 ?_
    obtain rfl := so_1 hf
    exact hret _ _ (zo_n (Or.inl rfl)) dX12_noRun_21
  · replace hf := if_t c_2 hf
    refine go_iconst hC dX12_noRun_16 k1_1 ?_
    refine go_goto hC dX12_noRun_17 (tgt := 21) (by decide) ?_
    obtain rfl := so_1 hf
    exact hret _ _ (zo_n (Or.inr rfl)) dX12_noRun_21
def f_X12_takes (x1 : Int32) (x2 : Int32) (x3 : Int32) (h : PH) : Option (Int32 × PH) :=
  if x3 ≤ (h.1 43 9) then (
  if (0 : Int32) = 0 then (
  lt_b (ph_i h 43 9 ((h.1 43 9) + 0)) fun h_1 =>
  some (0, h_1))
  else (
  lt_b (ph_i h 43 9 ((h.1 43 9) + 1)) fun h_2 =>
  some (0, h_2)))
  else (
  ga_i (x2 + (h.1 43 9)) 400 (
  if (h.1 69 (x2 + (h.1 43 9)).toNatClampNeg) = x1 then (
  if (1 : Int32) = 0 then (
  lt_b (ph_i h 43 9 ((h.1 43 9) + 0)) fun h_8 =>
  some (1, h_8))
  else (
  lt_b (ph_i h 43 9 ((h.1 43 9) + 1)) fun h_9 =>
  some (1, h_9)))
  else (
  if (0 : Int32) = 0 then (
  lt_b (ph_i h 43 9 ((h.1 43 9) + 0)) fun h_5 =>
  some (0, h_5))
  else (
  lt_b (ph_i h 43 9 ((h.1 43 9) + 1)) fun h_6 =>
  some (0, h_6)))))
theorem e_X12_takes : yX12_takes.cls = RX12 ∧ yX12_takes.cls ≠ "java/lang/invoke/MethodHandle" ∧ yX12_takes.cls ≠ "java/lang/invoke/VarHandle" ∧ (parseMethodDescriptor yX12_takes.desc).map (fun d => d.parameters.length) = some 3 := by decide +kernel
set_option maxRecDepth 100000 in
set_option maxHeartbeats 4000000 in
theorem c_X12_takes (x1 : Int32) (x2 : Int32) (x3 : Int32) (h : PH) (h2 : PH) (r : Int32) (hf : f_X12_takes x1 x2 x3 h = some (r, h2)) : Con yX12_takes wsX12_takes (rm_d 0) l0_B [.ref 43, .int x1, .int x2, .int x3] h (some (.int r)) h2 := by
  have hn12 : ∀ w ∈ wsX120, w ∈ wsX12_takes := (fun _ hw => (List.mem_cons_of_mem _ (List.mem_append_right _ hw)))
  refine con_i (ty := .boolean) (cc := cX12_takes) (nL := 5) (by decide) rfl (Nat.le_of_ble_eq_true rfl) ?_
  intro C hC hret
  change Go l0_B C 0 0 0 [(0, .ref 43), (1, .int x1), (2, .int x2), (3, .int x3)] [] h
  unfold f_X12_takes at hf
  refine go_aload_n hC dX12_takes_0 rfl 0 rfl ?_
  refine go_geti hC (j := 9) (idx := 123) (nm := "readAt") (ds := "I") (b_43 _) rfl rfl hn12 (Nat.le_of_ble_eq_true rfl) rfl rfl (List.mem_cons_of_mem _ (List.mem_append_left _ (List.mem_of_getElem? (i := 0) rfl))) (Or.inl rfl) dX12_takes_1 ?_
  refine go_iload_n hC dX12_takes_4 rfl 3 rfl ?_
  refine go_icmp_ge hC dX12_takes_5 (tgt := 27) (by decide) (fun c_12 => ?_) (fun c_12 => ?_)
  · replace hf := if_t c_12 hf
    refine go_iconst hC dX12_takes_27 k1_0 ?_
    refine go_istore hC dX12_takes_28 (Nat.le_of_ble_eq_true rfl) rfl ?_
    refine go_aload_n hC dX12_takes_30 rfl 1 rfl ?_
    refine go_dup hC dX12_takes_31 rfl ?_
    refine go_geti hC (j := 9) (idx := 123) (nm := "readAt") (ds := "I") (b_43 _) rfl rfl hn12 (Nat.le_of_ble_eq_true rfl) rfl rfl (List.mem_cons_of_mem _ (List.mem_append_left _ (List.mem_of_getElem? (i := 0) rfl))) (Or.inl rfl) dX12_takes_32 ?_
    refine go_iload hC dX12_takes_35 0 rfl ?_
    refine go_if_eq hC dX12_takes_37 (tgt := 44) (by decide) (fun c_3 => ?_) (fun c_3 => ?_)
    · replace hf := if_t c_3 hf
      refine go_iconst hC dX12_takes_44 k1_0 ?_
      refine go_iadd hC dX12_takes_45 ?_
      obtain ⟨h_1, eh_1, hf⟩ := lt_e hf
      refine go_puti hC tyX12 (j := 9) (idx := 123) (nm := "readAt") (ds := "I") (b_43 _) rfl rfl hn12 tyX12_ok nmX12 (Nat.le_of_ble_eq_true rfl) rfl rfl (List.mem_cons_of_mem _ (List.mem_append_left _ (List.mem_of_getElem? (i := 0) rfl))) (Or.inl rfl) rfl (tyX12_ok _ (Nat.le_of_ble_eq_true rfl)) dX12_takes_46 ?_
      refine go_toph eh_1 ?_
      refine go_iload hC dX12_takes_49 0 rfl ?_
      obtain ⟨rfl, rfl⟩ := so_2 hf
      exact hret _ _ (zo_n (Or.inl rfl)) dX12_takes_51
    · replace hf := if_f c_3 hf
      refine go_iconst hC dX12_takes_40 k1_1 ?_
      refine go_goto hC dX12_takes_41 (tgt := 45) (by decide) ?_
      refine go_iadd hC dX12_takes_45 ?_
      obtain ⟨h_2, eh_2, hf⟩ := lt_e hf
      refine go_puti hC tyX12 (j := 9) (idx := 123) (nm := "readAt") (ds := "I") (b_43 _) rfl rfl hn12 tyX12_ok nmX12 (Nat.le_of_ble_eq_true rfl) rfl rfl (List.mem_cons_of_mem _ (List.mem_append_left _ (List.mem_of_getElem? (i := 0) rfl))) (Or.inl rfl) rfl (tyX12_ok _ (Nat.le_of_ble_eq_true rfl)) dX12_takes_46 ?_
      refine go_toph eh_2 ?_
      refine go_iload hC dX12_takes_49 0 rfl ?_
      obtain ⟨rfl, rfl⟩ := so_2 hf
      exact hret _ _ (zo_n (Or.inl rfl)) dX12_takes_51
  · replace hf := if_f c_12 hf
    refine go_aload_n hC dX12_takes_8 rfl 0 rfl ?_
    refine go_getr hC (j := 42) (idx := 87) (nm := "sheet") (ds := "[I") (b_43 _) rfl rfl hn12 (Nat.le_of_ble_eq_true rfl) rfl rfl (List.mem_cons_of_mem _ (List.mem_append_left _ (List.mem_of_getElem? (i := 1) rfl))) (Or.inl rfl) dX12_takes_9 ?_
    refine go_iload_n hC dX12_takes_12 rfl 2 rfl ?_
    refine go_aload_n hC dX12_takes_13 rfl 0 rfl ?_
    refine go_geti hC (j := 9) (idx := 123) (nm := "readAt") (ds := "I") (b_43 _) rfl rfl hn12 (Nat.le_of_ble_eq_true rfl) rfl rfl (List.mem_cons_of_mem _ (List.mem_append_left _ (List.mem_of_getElem? (i := 0) rfl))) (Or.inl rfl) dX12_takes_14 ?_
    refine go_iadd hC dX12_takes_17 ?_
    obtain ⟨g_4, hf⟩ := ga_e hf
    refine go_iald hC (b_69 _) g_4 dX12_takes_18 ?_
    refine go_iload_n hC dX12_takes_19 rfl 1 rfl ?_
    refine go_icmp_ne hC dX12_takes_20 (tgt := 27) (by decide) (fun c_11 => ?_) (fun c_11 => ?_)
    · replace hf := if_f c_11 hf
      refine go_iconst hC dX12_takes_27 k1_0 ?_
      refine go_istore hC dX12_takes_28 (Nat.le_of_ble_eq_true rfl) rfl ?_
      refine go_aload_n hC dX12_takes_30 rfl 1 rfl ?_
      refine go_dup hC dX12_takes_31 rfl ?_
      refine go_geti hC (j := 9) (idx := 123) (nm := "readAt") (ds := "I") (b_43 _) rfl rfl hn12 (Nat.le_of_ble_eq_true rfl) rfl rfl (List.mem_cons_of_mem _ (List.mem_append_left _ (List.mem_of_getElem? (i := 0) rfl))) (Or.inl rfl) dX12_takes_32 ?_
      refine go_iload hC dX12_takes_35 0 rfl ?_
      refine go_if_eq hC dX12_takes_37 (tgt := 44) (by decide) (fun c_7 => ?_) (fun c_7 => ?_)
      · replace hf := if_t c_7 hf
        refine go_iconst hC dX12_takes_44 k1_0 ?_
        refine go_iadd hC dX12_takes_45 ?_
        obtain ⟨h_5, eh_5, hf⟩ := lt_e hf
        refine go_puti hC tyX12 (j := 9) (idx := 123) (nm := "readAt") (ds := "I") (b_43 _) rfl rfl hn12 tyX12_ok nmX12 (Nat.le_of_ble_eq_true rfl) rfl rfl (List.mem_cons_of_mem _ (List.mem_append_left _ (List.mem_of_getElem? (i := 0) rfl))) (Or.inl rfl) rfl (tyX12_ok _ (Nat.le_of_ble_eq_true rfl)) dX12_takes_46 ?_
        refine go_toph eh_5 ?_
        refine go_iload hC dX12_takes_49 0 rfl ?_
        obtain ⟨rfl, rfl⟩ := so_2 hf
        exact hret _ _ (zo_n (Or.inl rfl)) dX12_takes_51
      · replace hf := if_f c_7 hf
        refine go_iconst hC dX12_takes_40 k1_1 ?_
        refine go_goto hC dX12_takes_41 (tgt := 45) (by decide) ?_
        refine go_iadd hC dX12_takes_45 ?_
        obtain ⟨h_6, eh_6, hf⟩ := lt_e hf
        refine go_puti hC tyX12 (j := 9) (idx := 123) (nm := "readAt") (ds := "I") (b_43 _) rfl rfl hn12 tyX12_ok nmX12 (Nat.le_of_ble_eq_true rfl) rfl rfl (List.mem_cons_of_mem _ (List.mem_append_left _ (List.mem_of_getElem? (i := 0) rfl))) (Or.inl rfl) rfl (tyX12_ok _ (Nat.le_of_ble_eq_true rfl)) dX12_takes_46 ?_
        refine go_toph eh_6 ?_
        refine go_iload hC dX12_takes_49 0 rfl ?_
        obtain ⟨rfl, rfl⟩ := so_2 hf
        exact hret _ _ (zo_n (Or.inl rfl)) dX12_takes_51
    · replace hf := if_t c_11 hf
      refine go_iconst hC dX12_takes_23 k1_1 ?_
      refine go_goto hC dX12_takes_24 (tgt := 28) (by decide) ?_
      refine go_istore hC dX12_takes_28 (Nat.le_of_ble_eq_true rfl) rfl ?_
      refine go_aload_n hC dX12_takes_30 rfl 1 rfl ?_
      refine go_dup hC dX12_takes_31 rfl ?_
      refine go_geti hC (j := 9) (idx := 123) (nm := "readAt") (ds := "I") (b_43 _) rfl rfl hn12 (Nat.le_of_ble_eq_true rfl) rfl rfl (List.mem_cons_of_mem _ (List.mem_append_left _ (List.mem_of_getElem? (i := 0) rfl))) (Or.inl rfl) dX12_takes_32 ?_
      refine go_iload hC dX12_takes_35 0 rfl ?_
      refine go_if_eq hC dX12_takes_37 (tgt := 44) (by decide) (fun c_10 => ?_) (fun c_10 => ?_)
      · replace hf := if_t c_10 hf
        refine go_iconst hC dX12_takes_44 k1_0 ?_
        refine go_iadd hC dX12_takes_45 ?_
        obtain ⟨h_8, eh_8, hf⟩ := lt_e hf
        refine go_puti hC tyX12 (j := 9) (idx := 123) (nm := "readAt") (ds := "I") (b_43 _) rfl rfl hn12 tyX12_ok nmX12 (Nat.le_of_ble_eq_true rfl) rfl rfl (List.mem_cons_of_mem _ (List.mem_append_left _ (List.mem_of_getElem? (i := 0) rfl))) (Or.inl rfl) rfl (tyX12_ok _ (Nat.le_of_ble_eq_true rfl)) dX12_takes_46 ?_
        refine go_toph eh_8 ?_
        refine go_iload hC dX12_takes_49 0 rfl ?_
        obtain ⟨rfl, rfl⟩ := so_2 hf
        exact hret _ _ (zo_n (Or.inr rfl)) dX12_takes_51
      · replace hf := if_f c_10 hf
        refine go_iconst hC dX12_takes_40 k1_1 ?_
        refine go_goto hC dX12_takes_41 (tgt := 45) (by decide) ?_
        refine go_iadd hC dX12_takes_45 ?_
        obtain ⟨h_9, eh_9, hf⟩ := lt_e hf
        refine go_puti hC tyX12 (j := 9) (idx := 123) (nm := "readAt") (ds := "I") (b_43 _) rfl rfl hn12 tyX12_ok nmX12 (Nat.le_of_ble_eq_true rfl) rfl rfl (List.mem_cons_of_mem _ (List.mem_append_left _ (List.mem_of_getElem? (i := 0) rfl))) (Or.inl rfl) rfl (tyX12_ok _ (Nat.le_of_ble_eq_true rfl)) dX12_takes_46 ?_
        refine go_toph eh_9 ?_
        refine go_iload hC dX12_takes_49 0 rfl ?_
        obtain ⟨rfl, rfl⟩ := so_2 hf
        exact hret _ _ (zo_n (Or.inr rfl)) dX12_takes_51
def f_X12_readsFigure (x1 : Int32) (x2 : Int32) (x3 : Int32) (x4 : Int32) (x5 : Int32) (h : PH) : Option (Int32 × PH) :=
  if x2 ≤ (h.1 43 9) then (
  lt_b (ph_i h 43 10 (-9)) fun h_1 =>
  bd_1 (f_X12_in ((h_1.1 43 10).toInt64) x3.toInt64 x4.toInt64 h_1) fun r_2 =>
  if r_2 = 0 then (
  if (0 : Int32) = 0 then (
  lt_b (ph_i h_1 43 9 ((h_1.1 43 9) + 0)) fun h_3 =>
  some (0, h_3))
  else (
  lt_b (ph_i h_1 43 9 ((h_1.1 43 9) + 1)) fun h_4 =>
  some (0, h_4)))
  else (
  if (h_1.1 43 10) = x5 then (
  if (0 : Int32) = 0 then (
  lt_b (ph_i h_1 43 9 ((h_1.1 43 9) + 0)) fun h_6 =>
  some (0, h_6))
  else (
  lt_b (ph_i h_1 43 9 ((h_1.1 43 9) + 1)) fun h_7 =>
  some (0, h_7)))
  else (
  if (1 : Int32) = 0 then (
  lt_b (ph_i h_1 43 9 ((h_1.1 43 9) + 0)) fun h_9 =>
  some (1, h_9))
  else (
  lt_b (ph_i h_1 43 9 ((h_1.1 43 9) + 1)) fun h_10 =>
  some (1, h_10)))))
  else (
  ga_i (x1 + (h.1 43 9)) 400 (
  lt_b (ph_i h 43 10 ((h.1 69 (x1 + (h.1 43 9)).toNatClampNeg) - 48)) fun h_15 =>
  bd_1 (f_X12_in ((h_15.1 43 10).toInt64) x3.toInt64 x4.toInt64 h_15) fun r_16 =>
  if r_16 = 0 then (
  if (0 : Int32) = 0 then (
  lt_b (ph_i h_15 43 9 ((h_15.1 43 9) + 0)) fun h_17 =>
  some (0, h_17))
  else (
  lt_b (ph_i h_15 43 9 ((h_15.1 43 9) + 1)) fun h_18 =>
  some (0, h_18)))
  else (
  if (h_15.1 43 10) = x5 then (
  if (0 : Int32) = 0 then (
  lt_b (ph_i h_15 43 9 ((h_15.1 43 9) + 0)) fun h_20 =>
  some (0, h_20))
  else (
  lt_b (ph_i h_15 43 9 ((h_15.1 43 9) + 1)) fun h_21 =>
  some (0, h_21)))
  else (
  if (1 : Int32) = 0 then (
  lt_b (ph_i h_15 43 9 ((h_15.1 43 9) + 0)) fun h_23 =>
  some (1, h_23))
  else (
  lt_b (ph_i h_15 43 9 ((h_15.1 43 9) + 1)) fun h_24 =>
  some (1, h_24))))))
theorem e_X12_readsFigure : yX12_readsFigure.cls = RX12 ∧ yX12_readsFigure.cls ≠ "java/lang/invoke/MethodHandle" ∧ yX12_readsFigure.cls ≠ "java/lang/invoke/VarHandle" ∧ (parseMethodDescriptor yX12_readsFigure.desc).map (fun d => d.parameters.length) = some 5 := by decide +kernel
set_option maxRecDepth 100000 in
set_option maxHeartbeats 4000000 in
theorem c_X12_readsFigure (x1 : Int32) (x2 : Int32) (x3 : Int32) (x4 : Int32) (x5 : Int32) (h : PH) (h2 : PH) (r : Int32) (hf : f_X12_readsFigure x1 x2 x3 x4 x5 h = some (r, h2)) : Con yX12_readsFigure wsX12_readsFigure (rm_d 1) l0_B [.ref 43, .int x1, .int x2, .int x3, .int x4, .int x5] h (some (.int r)) h2 := by
  have hn12 : ∀ w ∈ wsX120, w ∈ wsX12_readsFigure := (fun _ hw => (List.mem_cons_of_mem _ (List.mem_append_right _ hw)))
  refine con_i (ty := .boolean) (cc := cX12_readsFigure) (nL := 7) (by decide) rfl (Nat.le_of_ble_eq_true rfl) ?_
  intro C hC hret
  change Go l0_B C 0 0 0 [(0, .ref 43), (1, .int x1), (2, .int x2), (3, .int x3), (4, .int x4), (5, .int x5)] [] h
  unfold f_X12_readsFigure at hf
  refine go_aload_n hC dX12_readsFigure_0 rfl 0 rfl ?_
  refine go_aload_n hC dX12_readsFigure_1 rfl 0 rfl ?_
  refine go_geti hC (j := 9) (idx := 123) (nm := "readAt") (ds := "I") (b_43 _) rfl rfl hn12 (Nat.le_of_ble_eq_true rfl) rfl rfl (List.mem_cons_of_mem _ (List.mem_append_left _ (List.mem_of_getElem? (i := 0) rfl))) (Or.inl rfl) dX12_readsFigure_2 ?_
  refine go_iload_n hC dX12_readsFigure_5 rfl 2 rfl ?_
  refine go_icmp_ge hC dX12_readsFigure_6 (tgt := 26) (by decide) (fun c_28 => ?_) (fun c_28 => ?_)
  · replace hf := if_t c_28 hf
    refine go_bipush hC dX12_readsFigure_26 k8_m9 ?_
    obtain ⟨h_1, eh_1, hf⟩ := lt_e hf
    refine go_puti hC tyX12 (j := 10) (idx := 126) (nm := "readValue") (ds := "I") (b_43 _) rfl rfl hn12 tyX12_ok nmX12 (Nat.le_of_ble_eq_true rfl) rfl rfl (List.mem_cons_of_mem _ (List.mem_append_left _ (List.mem_of_getElem? (i := 2) rfl))) (Or.inl rfl) rfl (tyX12_ok _ (Nat.le_of_ble_eq_true rfl)) dX12_readsFigure_28 ?_
    refine go_toph eh_1 ?_
    refine go_aload_n hC dX12_readsFigure_31 rfl 0 rfl ?_
    refine go_geti hC (j := 10) (idx := 126) (nm := "readValue") (ds := "I") (b_43 _) rfl rfl hn12 (Nat.le_of_ble_eq_true rfl) rfl rfl (List.mem_cons_of_mem _ (List.mem_append_left _ (List.mem_of_getElem? (i := 2) rfl))) (Or.inl rfl) dX12_readsFigure_32 ?_
    refine go_i2l hC dX12_readsFigure_35 ?_
    refine go_iload_n hC dX12_readsFigure_36 rfl 3 rfl ?_
    refine go_i2l hC dX12_readsFigure_37 ?_
    refine go_iload hC dX12_readsFigure_38 4 rfl ?_
    refine go_i2l hC dX12_readsFigure_40 ?_
    obtain ⟨r_2, hc, hf⟩ := bd_e1 hf
    refine go_callS hC (c_X12_in ((h_1.1 43 10).toInt64) x3.toInt64 x4.toInt64 h_1 r_2 hc) gX12_readsFigure_X12_in rfl ⟨rfl, rfl⟩ 3 e_X12_in ⟨Nat.le_of_ble_eq_true rfl, Nat.le_of_ble_eq_true rfl⟩ rfl (st := []) (st1 := [.int r_2]) rfl rfl (Nat.le_of_ble_eq_true rfl) ⟨Nat.zero_le _, Nat.zero_le _⟩ dX12_readsFigure_41 ?_
    refine go_if_eq hC dX12_readsFigure_44 (tgt := 60) (by decide) (fun c_13 => ?_) (fun c_13 => ?_)
    · replace hf := if_t c_13 hf
      refine go_iconst hC dX12_readsFigure_60 k1_0 ?_
      refine go_istore hC dX12_readsFigure_61 (Nat.le_of_ble_eq_true rfl) rfl ?_
      refine go_aload_n hC dX12_readsFigure_63 rfl 1 rfl ?_
      refine go_dup hC dX12_readsFigure_64 rfl ?_
      refine go_geti hC (j := 9) (idx := 123) (nm := "readAt") (ds := "I") (b_43 _) rfl rfl hn12 (Nat.le_of_ble_eq_true rfl) rfl rfl (List.mem_cons_of_mem _ (List.mem_append_left _ (List.mem_of_getElem? (i := 0) rfl))) (Or.inl rfl) dX12_readsFigure_65 ?_
      refine go_iload hC dX12_readsFigure_68 0 rfl ?_
      refine go_if_eq hC dX12_readsFigure_70 (tgt := 77) (by decide) (fun c_5 => ?_) (fun c_5 => ?_)
      · replace hf := if_t c_5 hf
        refine go_iconst hC dX12_readsFigure_77 k1_0 ?_
        refine go_iadd hC dX12_readsFigure_78 ?_
        obtain ⟨h_3, eh_3, hf⟩ := lt_e hf
        refine go_puti hC tyX12 (j := 9) (idx := 123) (nm := "readAt") (ds := "I") (b_43 _) rfl rfl hn12 tyX12_ok nmX12 (Nat.le_of_ble_eq_true rfl) rfl rfl (List.mem_cons_of_mem _ (List.mem_append_left _ (List.mem_of_getElem? (i := 0) rfl))) (Or.inl rfl) rfl (tyX12_ok _ (Nat.le_of_ble_eq_true rfl)) dX12_readsFigure_79 ?_
        refine go_toph eh_3 ?_
        refine go_iload hC dX12_readsFigure_82 0 rfl ?_
        obtain ⟨rfl, rfl⟩ := so_2 hf
        exact hret _ _ (zo_n (Or.inl rfl)) dX12_readsFigure_84
      · replace hf := if_f c_5 hf
        refine go_iconst hC dX12_readsFigure_73 k1_1 ?_
        refine go_goto hC dX12_readsFigure_74 (tgt := 78) (by decide) ?_
        refine go_iadd hC dX12_readsFigure_78 ?_
        obtain ⟨h_4, eh_4, hf⟩ := lt_e hf
        refine go_puti hC tyX12 (j := 9) (idx := 123) (nm := "readAt") (ds := "I") (b_43 _) rfl rfl hn12 tyX12_ok nmX12 (Nat.le_of_ble_eq_true rfl) rfl rfl (List.mem_cons_of_mem _ (List.mem_append_left _ (List.mem_of_getElem? (i := 0) rfl))) (Or.inl rfl) rfl (tyX12_ok _ (Nat.le_of_ble_eq_true rfl)) dX12_readsFigure_79 ?_
        refine go_toph eh_4 ?_
        refine go_iload hC dX12_readsFigure_82 0 rfl ?_
        obtain ⟨rfl, rfl⟩ := so_2 hf
        exact hret _ _ (zo_n (Or.inl rfl)) dX12_readsFigure_84
    · replace hf := if_f c_13 hf
      refine go_aload_n hC dX12_readsFigure_47 rfl 0 rfl ?_
      refine go_geti hC (j := 10) (idx := 126) (nm := "readValue") (ds := "I") (b_43 _) rfl rfl hn12 (Nat.le_of_ble_eq_true rfl) rfl rfl (List.mem_cons_of_mem _ (List.mem_append_left _ (List.mem_of_getElem? (i := 2) rfl))) (Or.inl rfl) dX12_readsFigure_48 ?_
      refine go_iload hC dX12_readsFigure_51 5 rfl ?_
      refine go_icmp_eq hC dX12_readsFigure_53 (tgt := 60) (by decide) (fun c_12 => ?_) (fun c_12 => ?_)
      · replace hf := if_t c_12 hf
        refine go_iconst hC dX12_readsFigure_60 k1_0 ?_
        refine go_istore hC dX12_readsFigure_61 (Nat.le_of_ble_eq_true rfl) rfl ?_
        refine go_aload_n hC dX12_readsFigure_63 rfl 1 rfl ?_
        refine go_dup hC dX12_readsFigure_64 rfl ?_
        refine go_geti hC (j := 9) (idx := 123) (nm := "readAt") (ds := "I") (b_43 _) rfl rfl hn12 (Nat.le_of_ble_eq_true rfl) rfl rfl (List.mem_cons_of_mem _ (List.mem_append_left _ (List.mem_of_getElem? (i := 0) rfl))) (Or.inl rfl) dX12_readsFigure_65 ?_
        refine go_iload hC dX12_readsFigure_68 0 rfl ?_
        refine go_if_eq hC dX12_readsFigure_70 (tgt := 77) (by decide) (fun c_8 => ?_) (fun c_8 => ?_)
        · replace hf := if_t c_8 hf
          refine go_iconst hC dX12_readsFigure_77 k1_0 ?_
          refine go_iadd hC dX12_readsFigure_78 ?_
          obtain ⟨h_6, eh_6, hf⟩ := lt_e hf
          refine go_puti hC tyX12 (j := 9) (idx := 123) (nm := "readAt") (ds := "I") (b_43 _) rfl rfl hn12 tyX12_ok nmX12 (Nat.le_of_ble_eq_true rfl) rfl rfl (List.mem_cons_of_mem _ (List.mem_append_left _ (List.mem_of_getElem? (i := 0) rfl))) (Or.inl rfl) rfl (tyX12_ok _ (Nat.le_of_ble_eq_true rfl)) dX12_readsFigure_79 ?_
          refine go_toph eh_6 ?_
          refine go_iload hC dX12_readsFigure_82 0 rfl ?_
          obtain ⟨rfl, rfl⟩ := so_2 hf
          exact hret _ _ (zo_n (Or.inl rfl)) dX12_readsFigure_84
        · replace hf := if_f c_8 hf
          refine go_iconst hC dX12_readsFigure_73 k1_1 ?_
          refine go_goto hC dX12_readsFigure_74 (tgt := 78) (by decide) ?_
          refine go_iadd hC dX12_readsFigure_78 ?_
          obtain ⟨h_7, eh_7, hf⟩ := lt_e hf
          refine go_puti hC tyX12 (j := 9) (idx := 123) (nm := "readAt") (ds := "I") (b_43 _) rfl rfl hn12 tyX12_ok nmX12 (Nat.le_of_ble_eq_true rfl) rfl rfl (List.mem_cons_of_mem _ (List.mem_append_left _ (List.mem_of_getElem? (i := 0) rfl))) (Or.inl rfl) rfl (tyX12_ok _ (Nat.le_of_ble_eq_true rfl)) dX12_readsFigure_79 ?_
          refine go_toph eh_7 ?_
          refine go_iload hC dX12_readsFigure_82 0 rfl ?_
          obtain ⟨rfl, rfl⟩ := so_2 hf
          exact hret _ _ (zo_n (Or.inl rfl)) dX12_readsFigure_84
      · replace hf := if_f c_12 hf
        refine go_iconst hC dX12_readsFigure_56 k1_1 ?_
        refine go_goto hC dX12_readsFigure_57 (tgt := 61) (by decide) ?_
        refine go_istore hC dX12_readsFigure_61 (Nat.le_of_ble_eq_true rfl) rfl ?_
        refine go_aload_n hC dX12_readsFigure_63 rfl 1 rfl ?_
        refine go_dup hC dX12_readsFigure_64 rfl ?_
        refine go_geti hC (j := 9) (idx := 123) (nm := "readAt") (ds := "I") (b_43 _) rfl rfl hn12 (Nat.le_of_ble_eq_true rfl) rfl rfl (List.mem_cons_of_mem _ (List.mem_append_left _ (List.mem_of_getElem? (i := 0) rfl))) (Or.inl rfl) dX12_readsFigure_65 ?_
        refine go_iload hC dX12_readsFigure_68 0 rfl ?_
        refine go_if_eq hC dX12_readsFigure_70 (tgt := 77) (by decide) (fun c_11 => ?_) (fun c_11 => ?_)
        · replace hf := if_t c_11 hf
          refine go_iconst hC dX12_readsFigure_77 k1_0 ?_
          refine go_iadd hC dX12_readsFigure_78 ?_
          obtain ⟨h_9, eh_9, hf⟩ := lt_e hf
          refine go_puti hC tyX12 (j := 9) (idx := 123) (nm := "readAt") (ds := "I") (b_43 _) rfl rfl hn12 tyX12_ok nmX12 (Nat.le_of_ble_eq_true rfl) rfl rfl (List.mem_cons_of_mem _ (List.mem_append_left _ (List.mem_of_getElem? (i := 0) rfl))) (Or.inl rfl) rfl (tyX12_ok _ (Nat.le_of_ble_eq_true rfl)) dX12_readsFigure_79 ?_
          refine go_toph eh_9 ?_
          refine go_iload hC dX12_readsFigure_82 0 rfl ?_
          obtain ⟨rfl, rfl⟩ := so_2 hf
          exact hret _ _ (zo_n (Or.inr rfl)) dX12_readsFigure_84
        · replace hf := if_f c_11 hf
          refine go_iconst hC dX12_readsFigure_73 k1_1 ?_
          refine go_goto hC dX12_readsFigure_74 (tgt := 78) (by decide) ?_
          refine go_iadd hC dX12_readsFigure_78 ?_
          obtain ⟨h_10, eh_10, hf⟩ := lt_e hf
          refine go_puti hC tyX12 (j := 9) (idx := 123) (nm := "readAt") (ds := "I") (b_43 _) rfl rfl hn12 tyX12_ok nmX12 (Nat.le_of_ble_eq_true rfl) rfl rfl (List.mem_cons_of_mem _ (List.mem_append_left _ (List.mem_of_getElem? (i := 0) rfl))) (Or.inl rfl) rfl (tyX12_ok _ (Nat.le_of_ble_eq_true rfl)) dX12_readsFigure_79 ?_
          refine go_toph eh_10 ?_
          refine go_iload hC dX12_readsFigure_82 0 rfl ?_
          obtain ⟨rfl, rfl⟩ := so_2 hf
          exact hret _ _ (zo_n (Or.inr rfl)) dX12_readsFigure_84
  · replace hf := if_f c_28 hf
    refine go_aload_n hC dX12_readsFigure_9 rfl 0 rfl ?_
    refine go_getr hC (j := 42) (idx := 87) (nm := "sheet") (ds := "[I") (b_43 _) rfl rfl hn12 (Nat.le_of_ble_eq_true rfl) rfl rfl (List.mem_cons_of_mem _ (List.mem_append_left _ (List.mem_of_getElem? (i := 1) rfl))) (Or.inl rfl) dX12_readsFigure_10 ?_
    refine go_iload_n hC dX12_readsFigure_13 rfl 1 rfl ?_
    refine go_aload_n hC dX12_readsFigure_14 rfl 0 rfl ?_
    refine go_geti hC (j := 9) (idx := 123) (nm := "readAt") (ds := "I") (b_43 _) rfl rfl hn12 (Nat.le_of_ble_eq_true rfl) rfl rfl (List.mem_cons_of_mem _ (List.mem_append_left _ (List.mem_of_getElem? (i := 0) rfl))) (Or.inl rfl) dX12_readsFigure_15 ?_
    refine go_iadd hC dX12_readsFigure_18 ?_
    obtain ⟨g_14, hf⟩ := ga_e hf
    refine go_iald hC (b_69 _) g_14 dX12_readsFigure_19 ?_
    refine go_bipush hC dX12_readsFigure_20 k8_48 ?_
    refine go_isub hC dX12_readsFigure_22 ?_
    refine go_goto hC dX12_readsFigure_23 (tgt := 28) (by decide) ?_
    obtain ⟨h_15, eh_15, hf⟩ := lt_e hf
    refine go_puti hC tyX12 (j := 10) (idx := 126) (nm := "readValue") (ds := "I") (b_43 _) rfl rfl hn12 tyX12_ok nmX12 (Nat.le_of_ble_eq_true rfl) rfl rfl (List.mem_cons_of_mem _ (List.mem_append_left _ (List.mem_of_getElem? (i := 2) rfl))) (Or.inl rfl) rfl (tyX12_ok _ (Nat.le_of_ble_eq_true rfl)) dX12_readsFigure_28 ?_
    refine go_toph eh_15 ?_
    refine go_aload_n hC dX12_readsFigure_31 rfl 0 rfl ?_
    refine go_geti hC (j := 10) (idx := 126) (nm := "readValue") (ds := "I") (b_43 _) rfl rfl hn12 (Nat.le_of_ble_eq_true rfl) rfl rfl (List.mem_cons_of_mem _ (List.mem_append_left _ (List.mem_of_getElem? (i := 2) rfl))) (Or.inl rfl) dX12_readsFigure_32 ?_
    refine go_i2l hC dX12_readsFigure_35 ?_
    refine go_iload_n hC dX12_readsFigure_36 rfl 3 rfl ?_
    refine go_i2l hC dX12_readsFigure_37 ?_
    refine go_iload hC dX12_readsFigure_38 4 rfl ?_
    refine go_i2l hC dX12_readsFigure_40 ?_
    obtain ⟨r_16, hc, hf⟩ := bd_e1 hf
    refine go_callS hC (c_X12_in ((h_15.1 43 10).toInt64) x3.toInt64 x4.toInt64 h_15 r_16 hc) gX12_readsFigure_X12_in rfl ⟨rfl, rfl⟩ 3 e_X12_in ⟨Nat.le_of_ble_eq_true rfl, Nat.le_of_ble_eq_true rfl⟩ rfl (st := []) (st1 := [.int r_16]) rfl rfl (Nat.le_of_ble_eq_true rfl) ⟨Nat.zero_le _, Nat.zero_le _⟩ dX12_readsFigure_41 ?_
    refine go_if_eq hC dX12_readsFigure_44 (tgt := 60) (by decide) (fun c_27 => ?_) (fun c_27 => ?_)
    · replace hf := if_t c_27 hf
      refine go_iconst hC dX12_readsFigure_60 k1_0 ?_
      refine go_istore hC dX12_readsFigure_61 (Nat.le_of_ble_eq_true rfl) rfl ?_
      refine go_aload_n hC dX12_readsFigure_63 rfl 1 rfl ?_
      refine go_dup hC dX12_readsFigure_64 rfl ?_
      refine go_geti hC (j := 9) (idx := 123) (nm := "readAt") (ds := "I") (b_43 _) rfl rfl hn12 (Nat.le_of_ble_eq_true rfl) rfl rfl (List.mem_cons_of_mem _ (List.mem_append_left _ (List.mem_of_getElem? (i := 0) rfl))) (Or.inl rfl) dX12_readsFigure_65 ?_
      refine go_iload hC dX12_readsFigure_68 0 rfl ?_
      refine go_if_eq hC dX12_readsFigure_70 (tgt := 77) (by decide) (fun c_19 => ?_) (fun c_19 => ?_)
      · replace hf := if_t c_19 hf
        refine go_iconst hC dX12_readsFigure_77 k1_0 ?_
        refine go_iadd hC dX12_readsFigure_78 ?_
        obtain ⟨h_17, eh_17, hf⟩ := lt_e hf
        refine go_puti hC tyX12 (j := 9) (idx := 123) (nm := "readAt") (ds := "I") (b_43 _) rfl rfl hn12 tyX12_ok nmX12 (Nat.le_of_ble_eq_true rfl) rfl rfl (List.mem_cons_of_mem _ (List.mem_append_left _ (List.mem_of_getElem? (i := 0) rfl))) (Or.inl rfl) rfl (tyX12_ok _ (Nat.le_of_ble_eq_true rfl)) dX12_readsFigure_79 ?_
        refine go_toph eh_17 ?_
        refine go_iload hC dX12_readsFigure_82 0 rfl ?_
        obtain ⟨rfl, rfl⟩ := so_2 hf
        exact hret _ _ (zo_n (Or.inl rfl)) dX12_readsFigure_84
      · replace hf := if_f c_19 hf
        refine go_iconst hC dX12_readsFigure_73 k1_1 ?_
        refine go_goto hC dX12_readsFigure_74 (tgt := 78) (by decide) ?_
        refine go_iadd hC dX12_readsFigure_78 ?_
        obtain ⟨h_18, eh_18, hf⟩ := lt_e hf
        refine go_puti hC tyX12 (j := 9) (idx := 123) (nm := "readAt") (ds := "I") (b_43 _) rfl rfl hn12 tyX12_ok nmX12 (Nat.le_of_ble_eq_true rfl) rfl rfl (List.mem_cons_of_mem _ (List.mem_append_left _ (List.mem_of_getElem? (i := 0) rfl))) (Or.inl rfl) rfl (tyX12_ok _ (Nat.le_of_ble_eq_true rfl)) dX12_readsFigure_79 ?_
        refine go_toph eh_18 ?_
        refine go_iload hC dX12_readsFigure_82 0 rfl ?_
        obtain ⟨rfl, rfl⟩ := so_2 hf
        exact hret _ _ (zo_n (Or.inl rfl)) dX12_readsFigure_84
    · replace hf := if_f c_27 hf
      refine go_aload_n hC dX12_readsFigure_47 rfl 0 rfl ?_
      refine go_geti hC (j := 10) (idx := 126) (nm := "readValue") (ds := "I") (b_43 _) rfl rfl hn12 (Nat.le_of_ble_eq_true rfl) rfl rfl (List.mem_cons_of_mem _ (List.mem_append_left _ (List.mem_of_getElem? (i := 2) rfl))) (Or.inl rfl) dX12_readsFigure_48 ?_
      refine go_iload hC dX12_readsFigure_51 5 rfl ?_
      refine go_icmp_eq hC dX12_readsFigure_53 (tgt := 60) (by decide) (fun c_26 => ?_) (fun c_26 => ?_)
      · replace hf := if_t c_26 hf
        refine go_iconst hC dX12_readsFigure_60 k1_0 ?_
        refine go_istore hC dX12_readsFigure_61 (Nat.le_of_ble_eq_true rfl) rfl ?_
        refine go_aload_n hC dX12_readsFigure_63 rfl 1 rfl ?_
        refine go_dup hC dX12_readsFigure_64 rfl ?_
        refine go_geti hC (j := 9) (idx := 123) (nm := "readAt") (ds := "I") (b_43 _) rfl rfl hn12 (Nat.le_of_ble_eq_true rfl) rfl rfl (List.mem_cons_of_mem _ (List.mem_append_left _ (List.mem_of_getElem? (i := 0) rfl))) (Or.inl rfl) dX12_readsFigure_65 ?_
        refine go_iload hC dX12_readsFigure_68 0 rfl ?_
        refine go_if_eq hC dX12_readsFigure_70 (tgt := 77) (by decide) (fun c_22 => ?_) (fun c_22 => ?_)
        · replace hf := if_t c_22 hf
          refine go_iconst hC dX12_readsFigure_77 k1_0 ?_
          refine go_iadd hC dX12_readsFigure_78 ?_
          obtain ⟨h_20, eh_20, hf⟩ := lt_e hf
          refine go_puti hC tyX12 (j := 9) (idx := 123) (nm := "readAt") (ds := "I") (b_43 _) rfl rfl hn12 tyX12_ok nmX12 (Nat.le_of_ble_eq_true rfl) rfl rfl (List.mem_cons_of_mem _ (List.mem_append_left _ (List.mem_of_getElem? (i := 0) rfl))) (Or.inl rfl) rfl (tyX12_ok _ (Nat.le_of_ble_eq_true rfl)) dX12_readsFigure_79 ?_
          refine go_toph eh_20 ?_
          refine go_iload hC dX12_readsFigure_82 0 rfl ?_
          obtain ⟨rfl, rfl⟩ := so_2 hf
          exact hret _ _ (zo_n (Or.inl rfl)) dX12_readsFigure_84
        · replace hf := if_f c_22 hf
          refine go_iconst hC dX12_readsFigure_73 k1_1 ?_
          refine go_goto hC dX12_readsFigure_74 (tgt := 78) (by decide) ?_
          refine go_iadd hC dX12_readsFigure_78 ?_
          obtain ⟨h_21, eh_21, hf⟩ := lt_e hf
          refine go_puti hC tyX12 (j := 9) (idx := 123) (nm := "readAt") (ds := "I") (b_43 _) rfl rfl hn12 tyX12_ok nmX12 (Nat.le_of_ble_eq_true rfl) rfl rfl (List.mem_cons_of_mem _ (List.mem_append_left _ (List.mem_of_getElem? (i := 0) rfl))) (Or.inl rfl) rfl (tyX12_ok _ (Nat.le_of_ble_eq_true rfl)) dX12_readsFigure_79 ?_
          refine go_toph eh_21 ?_
          refine go_iload hC dX12_readsFigure_82 0 rfl ?_
          obtain ⟨rfl, rfl⟩ := so_2 hf
          exact hret _ _ (zo_n (Or.inl rfl)) dX12_readsFigure_84
      · replace hf := if_f c_26 hf
        refine go_iconst hC dX12_readsFigure_56 k1_1 ?_
        refine go_goto hC dX12_readsFigure_57 (tgt := 61) (by decide) ?_
        refine go_istore hC dX12_readsFigure_61 (Nat.le_of_ble_eq_true rfl) rfl ?_
        refine go_aload_n hC dX12_readsFigure_63 rfl 1 rfl ?_
        refine go_dup hC dX12_readsFigure_64 rfl ?_
        refine go_geti hC (j := 9) (idx := 123) (nm := "readAt") (ds := "I") (b_43 _) rfl rfl hn12 (Nat.le_of_ble_eq_true rfl) rfl rfl (List.mem_cons_of_mem _ (List.mem_append_left _ (List.mem_of_getElem? (i := 0) rfl))) (Or.inl rfl) dX12_readsFigure_65 ?_
        refine go_iload hC dX12_readsFigure_68 0 rfl ?_
        refine go_if_eq hC dX12_readsFigure_70 (tgt := 77) (by decide) (fun c_25 => ?_) (fun c_25 => ?_)
        · replace hf := if_t c_25 hf
          refine go_iconst hC dX12_readsFigure_77 k1_0 ?_
          refine go_iadd hC dX12_readsFigure_78 ?_
          obtain ⟨h_23, eh_23, hf⟩ := lt_e hf
          refine go_puti hC tyX12 (j := 9) (idx := 123) (nm := "readAt") (ds := "I") (b_43 _) rfl rfl hn12 tyX12_ok nmX12 (Nat.le_of_ble_eq_true rfl) rfl rfl (List.mem_cons_of_mem _ (List.mem_append_left _ (List.mem_of_getElem? (i := 0) rfl))) (Or.inl rfl) rfl (tyX12_ok _ (Nat.le_of_ble_eq_true rfl)) dX12_readsFigure_79 ?_
          refine go_toph eh_23 ?_
          refine go_iload hC dX12_readsFigure_82 0 rfl ?_
          obtain ⟨rfl, rfl⟩ := so_2 hf
          exact hret _ _ (zo_n (Or.inr rfl)) dX12_readsFigure_84
        · replace hf := if_f c_25 hf
          refine go_iconst hC dX12_readsFigure_73 k1_1 ?_
          refine go_goto hC dX12_readsFigure_74 (tgt := 78) (by decide) ?_
          refine go_iadd hC dX12_readsFigure_78 ?_
          obtain ⟨h_24, eh_24, hf⟩ := lt_e hf
          refine go_puti hC tyX12 (j := 9) (idx := 123) (nm := "readAt") (ds := "I") (b_43 _) rfl rfl hn12 tyX12_ok nmX12 (Nat.le_of_ble_eq_true rfl) rfl rfl (List.mem_cons_of_mem _ (List.mem_append_left _ (List.mem_of_getElem? (i := 0) rfl))) (Or.inl rfl) rfl (tyX12_ok _ (Nat.le_of_ble_eq_true rfl)) dX12_readsFigure_79 ?_
          refine go_toph eh_24 ?_
          refine go_iload hC dX12_readsFigure_82 0 rfl ?_
          obtain ⟨rfl, rfl⟩ := so_2 hf
          exact hret _ _ (zo_n (Or.inr rfl)) dX12_readsFigure_84
def f_X12_readsRun (x1 : Int32) (x2 : Int32) (h : PH) : Option (Int32 × PH) :=
  if (h.1 43 13) = 14 then (
  some (0, h))
  else (
  bd_2 (f_X12_takes 59 x1 x2 h) fun r_1 h_2 =>
  if r_1 = 0 then (
  some (0, h_2))
  else (
  bd_2 (f_X12_readsFigure x1 x2 0 ((h_2.1 43 11) - 1) (-9) h_2) fun r_3 h_4 =>
  if r_3 = 0 then (
  some (0, h_4))
  else (
  ga_i (h_4.1 43 13) 14 (
  lt_b (ph_i h_4 49 (h_4.1 43 13).toNatClampNeg (h_4.1 43 10)) fun h_6 =>
  ga_i (h_6.1 43 13) 14 (
  bd_2 (f_X12_readsFigure x1 x2 0 ((h_6.1 43 11) - 1) (h_6.1 49 (h_6.1 43 13).toNatClampNeg) h_6) fun r_8 h_9 =>
  if r_8 = 0 then (
  some (0, h_9))
  else (
  ga_i (h_9.1 43 13) 14 (
  lt_b (ph_i h_9 50 (h_9.1 43 13).toNatClampNeg (h_9.1 43 10)) fun h_11 =>
  bd_2 (f_X12_readsFigure x1 x2 1 9 (-9) h_11) fun r_12 h_13 =>
  if r_12 = 0 then (
  some (0, h_13))
  else (
  ga_i (h_13.1 43 13) 14 (
  lt_b (ph_i h_13 51 (h_13.1 43 13).toNatClampNeg (h_13.1 43 10)) fun h_15 =>
  ga_i (h_15.1 43 13) 14 (
  lt_b (ph_i h_15 52 (h_15.1 43 13).toNatClampNeg 0) fun h_17 =>
  bd_2 (f_X12_takes 100 x1 x2 h_17) fun r_18 h_19 =>
  if r_18 = 0 then (
  lt_b (ph_i h_19 43 13 ((h_19.1 43 13) + 1)) fun h_20 =>
  some (1, h_20))
  else (
  bd_2 (f_X12_readsFigure x1 x2 1 9 (-9) h_19) fun r_21 h_22 =>
  if r_21 = 0 then (
  some (0, h_22))
  else (
  ga_i (h_22.1 43 13) 14 (
  lt_b (ph_i h_22 52 (h_22.1 43 13).toNatClampNeg (h_22.1 43 10)) fun h_24 =>
  lt_b (ph_i h_24 43 13 ((h_24.1 43 13) + 1)) fun h_25 =>
  some (1, h_25))))))))))))))
theorem e_X12_readsRun : yX12_readsRun.cls = RX12 ∧ yX12_readsRun.cls ≠ "java/lang/invoke/MethodHandle" ∧ yX12_readsRun.cls ≠ "java/lang/invoke/VarHandle" ∧ (parseMethodDescriptor yX12_readsRun.desc).map (fun d => d.parameters.length) = some 2 := by decide +kernel
set_option maxRecDepth 100000 in
set_option maxHeartbeats 4000000 in
theorem c_X12_readsRun (x1 : Int32) (x2 : Int32) (h : PH) (h2 : PH) (r : Int32) (hf : f_X12_readsRun x1 x2 h = some (r, h2)) : Con yX12_readsRun wsX12_readsRun (rm_d 2) l0_B [.ref 43, .int x1, .int x2] h (some (.int r)) h2 := by
  have hn12 : ∀ w ∈ wsX120, w ∈ wsX12_readsRun := (fun _ hw => (List.mem_cons_of_mem _ (List.mem_append_right _ hw)))
  refine con_i (ty := .boolean) (cc := cX12_readsRun) (nL := 3) (by decide) rfl (Nat.le_of_ble_eq_true rfl) ?_
  intro C hC hret
  change Go l0_B C 0 0 0 [(0, .ref 43), (1, .int x1), (2, .int x2)] [] h
  unfold f_X12_readsRun at hf
  refine go_aload_n hC dX12_readsRun_0 rfl 0 rfl ?_
  refine go_geti hC (j := 13) (idx := 129) (nm := "readRuns") (ds := "I") (b_43 _) rfl rfl hn12 (Nat.le_of_ble_eq_true rfl) rfl rfl (List.mem_cons_of_mem _ (List.mem_append_left _ (List.mem_of_getElem? (i := 0) rfl))) (Or.inl rfl) dX12_readsRun_1 ?_
  refine go_bipush hC dX12_readsRun_4 k8_14 ?_
  refine go_icmp_eq hC dX12_readsRun_6 (tgt := 38) (by decide) (fun c_32 => ?_) (fun c_32 => ?_)
  · replace hf := if_t c_32 hf
    refine go_iconst hC dX12_readsRun_38 k1_0 ?_
    obtain ⟨rfl, rfl⟩ := so_2 hf
    exact hret _ _ (zo_n (Or.inl rfl)) dX12_readsRun_39
  · replace hf := if_f c_32 hf
    refine go_aload_n hC dX12_readsRun_9 rfl 0 rfl ?_
    refine go_bipush hC dX12_readsRun_10 k8_59 ?_
    refine go_iload_n hC dX12_readsRun_12 rfl 1 rfl ?_
    refine go_iload_n hC dX12_readsRun_13 rfl 2 rfl ?_
    obtain ⟨r_1, h_2, hc, hf⟩ := bd_e2 hf
    refine go_callV hC (c_X12_takes 59 x1 x2 h h_2 r_1 hc) gX12_readsRun_X12_takes rfl ⟨rfl, rfl⟩ 3 e_X12_takes ⟨Nat.le_of_ble_eq_true rfl, Nat.le_of_ble_eq_true rfl⟩ (b_43 _) rfl rfl (st := []) (st1 := [.int r_1]) rfl rfl (Nat.le_of_ble_eq_true rfl) ⟨Nat.zero_le _, Nat.zero_le _⟩ dX12_readsRun_14 ?_
    refine go_if_eq hC dX12_readsRun_17 (tgt := 38) (by decide) (fun c_31 => ?_) (fun c_31 => ?_)
    · replace hf := if_t c_31 hf
      refine go_iconst hC dX12_readsRun_38 k1_0 ?_
      obtain ⟨rfl, rfl⟩ := so_2 hf
      exact hret _ _ (zo_n (Or.inl rfl)) dX12_readsRun_39
    · replace hf := if_f c_31 hf
      refine go_aload_n hC dX12_readsRun_20 rfl 0 rfl ?_
      refine go_iload_n hC dX12_readsRun_21 rfl 1 rfl ?_
      refine go_iload_n hC dX12_readsRun_22 rfl 2 rfl ?_
      refine go_iconst hC dX12_readsRun_23 k1_0 ?_
      refine go_aload_n hC dX12_readsRun_24 rfl 0 rfl ?_
      refine go_geti hC (j := 11) (idx := 136) (nm := "readPlaces") (ds := "I") (b_43 _) rfl rfl hn12 (Nat.le_of_ble_eq_true rfl) rfl rfl (List.mem_cons_of_mem _ (List.mem_append_left _ (List.mem_of_getElem? (i := 1) rfl))) (Or.inl rfl) dX12_readsRun_25 ?_
      refine go_iconst hC dX12_readsRun_28 k1_1 ?_
      refine go_isub hC dX12_readsRun_29 ?_
      refine go_bipush hC dX12_readsRun_30 k8_m9 ?_
      obtain ⟨r_3, h_4, hc, hf⟩ := bd_e2 hf
      refine go_callV hC (c_X12_readsFigure x1 x2 0 ((h_2.1 43 11) - 1) (-9) h_2 h_4 r_3 hc) gX12_readsRun_X12_readsFigure rfl ⟨rfl, rfl⟩ 5 e_X12_readsFigure ⟨Nat.le_of_ble_eq_true rfl, Nat.le_of_ble_eq_true rfl⟩ (b_43 _) rfl rfl (st := []) (st1 := [.int r_3]) rfl rfl (Nat.le_of_ble_eq_true rfl) ⟨Nat.zero_le _, Nat.zero_le _⟩ dX12_readsRun_32 ?_
      refine go_if_ne hC dX12_readsRun_35 (tgt := 40) (by decide) (fun c_30 => ?_) (fun c_30 => ?_)
      · replace hf := if_f c_30 hf
        refine go_aload_n hC dX12_readsRun_40 rfl 0 rfl ?_
        refine go_getr hC (j := 14) (idx := 26) (nm := "readOne") (ds := "[I") (b_43 _) rfl rfl hn12 (Nat.le_of_ble_eq_true rfl) rfl rfl (List.mem_cons_of_mem _ (List.mem_append_left _ (List.mem_of_getElem? (i := 2) rfl))) (Or.inl rfl) dX12_readsRun_41 ?_
        refine go_aload_n hC dX12_readsRun_44 rfl 0 rfl ?_
        refine go_geti hC (j := 13) (idx := 129) (nm := "readRuns") (ds := "I") (b_43 _) rfl rfl hn12 (Nat.le_of_ble_eq_true rfl) rfl rfl (List.mem_cons_of_mem _ (List.mem_append_left _ (List.mem_of_getElem? (i := 0) rfl))) (Or.inl rfl) dX12_readsRun_45 ?_
        refine go_aload_n hC dX12_readsRun_48 rfl 0 rfl ?_
        refine go_geti hC (j := 10) (idx := 126) (nm := "readValue") (ds := "I") (b_43 _) rfl rfl hn12 (Nat.le_of_ble_eq_true rfl) rfl rfl (List.mem_cons_of_mem _ (List.mem_append_left _ (List.mem_of_getElem? (i := 3) rfl))) (Or.inl rfl) dX12_readsRun_49 ?_
        obtain ⟨g_5, hf⟩ := ga_e hf
        obtain ⟨h_6, eh_6, hf⟩ := lt_e hf
        refine go_iast hC (b_49 _) g_5 dX12_readsRun_52 ?_
        refine go_toph eh_6 ?_
        refine go_aload_n hC dX12_readsRun_53 rfl 0 rfl ?_
        refine go_iload_n hC dX12_readsRun_54 rfl 1 rfl ?_
        refine go_iload_n hC dX12_readsRun_55 rfl 2 rfl ?_
        refine go_iconst hC dX12_readsRun_56 k1_0 ?_
        refine go_aload_n hC dX12_readsRun_57 rfl 0 rfl ?_
        refine go_geti hC (j := 11) (idx := 136) (nm := "readPlaces") (ds := "I") (b_43 _) rfl rfl hn12 (Nat.le_of_ble_eq_true rfl) rfl rfl (List.mem_cons_of_mem _ (List.mem_append_left _ (List.mem_of_getElem? (i := 1) rfl))) (Or.inl rfl) dX12_readsRun_58 ?_
        refine go_iconst hC dX12_readsRun_61 k1_1 ?_
        refine go_isub hC dX12_readsRun_62 ?_
        refine go_aload_n hC dX12_readsRun_63 rfl 0 rfl ?_
        refine go_getr hC (j := 14) (idx := 26) (nm := "readOne") (ds := "[I") (b_43 _) rfl rfl hn12 (Nat.le_of_ble_eq_true rfl) rfl rfl (List.mem_cons_of_mem _ (List.mem_append_left _ (List.mem_of_getElem? (i := 2) rfl))) (Or.inl rfl) dX12_readsRun_64 ?_
        refine go_aload_n hC dX12_readsRun_67 rfl 0 rfl ?_
        refine go_geti hC (j := 13) (idx := 129) (nm := "readRuns") (ds := "I") (b_43 _) rfl rfl hn12 (Nat.le_of_ble_eq_true rfl) rfl rfl (List.mem_cons_of_mem _ (List.mem_append_left _ (List.mem_of_getElem? (i := 0) rfl))) (Or.inl rfl) dX12_readsRun_68 ?_
        obtain ⟨g_7, hf⟩ := ga_e hf
        refine go_iald hC (b_49 _) g_7 dX12_readsRun_71 ?_
        obtain ⟨r_8, h_9, hc, hf⟩ := bd_e2 hf
        refine go_callV hC (c_X12_readsFigure x1 x2 0 ((h_6.1 43 11) - 1) (h_6.1 49 (h_6.1 43 13).toNatClampNeg) h_6 h_9 r_8 hc) gX12_readsRun_X12_readsFigure rfl ⟨rfl, rfl⟩ 5 e_X12_readsFigure ⟨Nat.le_of_ble_eq_true rfl, Nat.le_of_ble_eq_true rfl⟩ (b_43 _) rfl rfl (st := []) (st1 := [.int r_8]) rfl rfl (Nat.le_of_ble_eq_true rfl) ⟨Nat.zero_le _, Nat.zero_le _⟩ dX12_readsRun_72 ?_
        refine go_if_ne hC dX12_readsRun_75 (tgt := 80) (by decide) (fun c_29 => ?_) (fun c_29 => ?_)
        · replace hf := if_f c_29 hf
          refine go_aload_n hC dX12_readsRun_80 rfl 0 rfl ?_
          refine go_getr hC (j := 15) (idx := 29) (nm := "readTwo") (ds := "[I") (b_43 _) rfl rfl hn12 (Nat.le_of_ble_eq_true rfl) rfl rfl (List.mem_cons_of_mem _ (List.mem_append_left _ (List.mem_of_getElem? (i := 4) rfl))) (Or.inl rfl) dX12_readsRun_81 ?_
          refine go_aload_n hC dX12_readsRun_84 rfl 0 rfl ?_
          refine go_geti hC (j := 13) (idx := 129) (nm := "readRuns") (ds := "I") (b_43 _) rfl rfl hn12 (Nat.le_of_ble_eq_true rfl) rfl rfl (List.mem_cons_of_mem _ (List.mem_append_left _ (List.mem_of_getElem? (i := 0) rfl))) (Or.inl rfl) dX12_readsRun_85 ?_
          refine go_aload_n hC dX12_readsRun_88 rfl 0 rfl ?_
          refine go_geti hC (j := 10) (idx := 126) (nm := "readValue") (ds := "I") (b_43 _) rfl rfl hn12 (Nat.le_of_ble_eq_true rfl) rfl rfl (List.mem_cons_of_mem _ (List.mem_append_left _ (List.mem_of_getElem? (i := 3) rfl))) (Or.inl rfl) dX12_readsRun_89 ?_
          obtain ⟨g_10, hf⟩ := ga_e hf
          obtain ⟨h_11, eh_11, hf⟩ := lt_e hf
          refine go_iast hC (b_50 _) g_10 dX12_readsRun_92 ?_
          refine go_toph eh_11 ?_
          refine go_aload_n hC dX12_readsRun_93 rfl 0 rfl ?_
          refine go_iload_n hC dX12_readsRun_94 rfl 1 rfl ?_
          refine go_iload_n hC dX12_readsRun_95 rfl 2 rfl ?_
          refine go_iconst hC dX12_readsRun_96 k1_1 ?_
          refine go_bipush hC dX12_readsRun_97 k8_9 ?_
          refine go_bipush hC dX12_readsRun_99 k8_m9 ?_
          obtain ⟨r_12, h_13, hc, hf⟩ := bd_e2 hf
          refine go_callV hC (c_X12_readsFigure x1 x2 1 9 (-9) h_11 h_13 r_12 hc) gX12_readsRun_X12_readsFigure rfl ⟨rfl, rfl⟩ 5 e_X12_readsFigure ⟨Nat.le_of_ble_eq_true rfl, Nat.le_of_ble_eq_true rfl⟩ (b_43 _) rfl rfl (st := []) (st1 := [.int r_12]) rfl rfl (Nat.le_of_ble_eq_true rfl) ⟨Nat.zero_le _, Nat.zero_le _⟩ dX12_readsRun_101 ?_
          refine go_if_ne hC dX12_readsRun_104 (tgt := 109) (by decide) (fun c_28 => ?_) (fun c_28 => ?_)
          · replace hf := if_f c_28 hf
            refine go_aload_n hC dX12_readsRun_109 rfl 0 rfl ?_
            refine go_getr hC (j := 16) (idx := 32) (nm := "readYards") (ds := "[I") (b_43 _) rfl rfl hn12 (Nat.le_of_ble_eq_true rfl) rfl rfl (List.mem_cons_of_mem _ (List.mem_append_left _ (List.mem_of_getElem? (i := 5) rfl))) (Or.inl rfl) dX12_readsRun_110 ?_
            refine go_aload_n hC dX12_readsRun_113 rfl 0 rfl ?_
            refine go_geti hC (j := 13) (idx := 129) (nm := "readRuns") (ds := "I") (b_43 _) rfl rfl hn12 (Nat.le_of_ble_eq_true rfl) rfl rfl (List.mem_cons_of_mem _ (List.mem_append_left _ (List.mem_of_getElem? (i := 0) rfl))) (Or.inl rfl) dX12_readsRun_114 ?_
            refine go_aload_n hC dX12_readsRun_117 rfl 0 rfl ?_
            refine go_geti hC (j := 10) (idx := 126) (nm := "readValue") (ds := "I") (b_43 _) rfl rfl hn12 (Nat.le_of_ble_eq_true rfl) rfl rfl (List.mem_cons_of_mem _ (List.mem_append_left _ (List.mem_of_getElem? (i := 3) rfl))) (Or.inl rfl) dX12_readsRun_118 ?_
            obtain ⟨g_14, hf⟩ := ga_e hf
            obtain ⟨h_15, eh_15, hf⟩ := lt_e hf
            refine go_iast hC (b_51 _) g_14 dX12_readsRun_121 ?_
            refine go_toph eh_15 ?_
            refine go_aload_n hC dX12_readsRun_122 rfl 0 rfl ?_
            refine go_getr hC (j := 17) (idx := 35) (nm := "readDrilled") (ds := "[I") (b_43 _) rfl rfl hn12 (Nat.le_of_ble_eq_true rfl) rfl rfl (List.mem_cons_of_mem _ (List.mem_append_left _ (List.mem_of_getElem? (i := 6) rfl))) (Or.inl rfl) dX12_readsRun_123 ?_
            refine go_aload_n hC dX12_readsRun_126 rfl 0 rfl ?_
            refine go_geti hC (j := 13) (idx := 129) (nm := "readRuns") (ds := "I") (b_43 _) rfl rfl hn12 (Nat.le_of_ble_eq_true rfl) rfl rfl (List.mem_cons_of_mem _ (List.mem_append_left _ (List.mem_of_getElem? (i := 0) rfl))) (Or.inl rfl) dX12_readsRun_127 ?_
            refine go_iconst hC dX12_readsRun_130 k1_0 ?_
            obtain ⟨g_16, hf⟩ := ga_e hf
            obtain ⟨h_17, eh_17, hf⟩ := lt_e hf
            refine go_iast hC (b_52 _) g_16 dX12_readsRun_131 ?_
            refine go_toph eh_17 ?_
            refine go_aload_n hC dX12_readsRun_132 rfl 0 rfl ?_
            refine go_bipush hC dX12_readsRun_133 k8_100 ?_
            refine go_iload_n hC dX12_readsRun_135 rfl 1 rfl ?_
            refine go_iload_n hC dX12_readsRun_136 rfl 2 rfl ?_
            obtain ⟨r_18, h_19, hc, hf⟩ := bd_e2 hf
            refine go_callV hC (c_X12_takes 100 x1 x2 h_17 h_19 r_18 hc) gX12_readsRun_X12_takes rfl ⟨rfl, rfl⟩ 3 e_X12_takes ⟨Nat.le_of_ble_eq_true rfl, Nat.le_of_ble_eq_true rfl⟩ (b_43 _) rfl rfl (st := []) (st1 := [.int r_18]) rfl rfl (Nat.le_of_ble_eq_true rfl) ⟨Nat.zero_le _, Nat.zero_le _⟩ dX12_readsRun_137 ?_
            refine go_if_eq hC dX12_readsRun_140 (tgt := 172) (by decide) (fun c_27 => ?_) (fun c_27 => ?_)
            · replace hf := if_t c_27 hf
              refine go_aload_n hC dX12_readsRun_172 rfl 0 rfl ?_
              refine go_dup hC dX12_readsRun_173 rfl ?_
              refine go_geti hC (j := 13) (idx := 129) (nm := "readRuns") (ds := "I") (b_43 _) rfl rfl hn12 (Nat.le_of_ble_eq_true rfl) rfl rfl (List.mem_cons_of_mem _ (List.mem_append_left _ (List.mem_of_getElem? (i := 0) rfl))) (Or.inl rfl) dX12_readsRun_174 ?_
              refine go_iconst hC dX12_readsRun_177 k1_1 ?_
              refine go_iadd hC dX12_readsRun_178 ?_
              obtain ⟨h_20, eh_20, hf⟩ := lt_e hf
              refine go_puti hC tyX12 (j := 13) (idx := 129) (nm := "readRuns") (ds := "I") (b_43 _) rfl rfl hn12 tyX12_ok nmX12 (Nat.le_of_ble_eq_true rfl) rfl rfl (List.mem_cons_of_mem _ (List.mem_append_left _ (List.mem_of_getElem? (i := 0) rfl))) (Or.inl rfl) rfl (tyX12_ok _ (Nat.le_of_ble_eq_true rfl)) dX12_readsRun_179 ?_
              refine go_toph eh_20 ?_
              refine go_iconst hC dX12_readsRun_182 k1_1 ?_
              obtain ⟨rfl, rfl⟩ := so_2 hf
              exact hret _ _ (zo_n (Or.inr rfl)) dX12_readsRun_183
            · replace hf := if_f c_27 hf
              refine go_aload_n hC dX12_readsRun_143 rfl 0 rfl ?_
              refine go_iload_n hC dX12_readsRun_144 rfl 1 rfl ?_
              refine go_iload_n hC dX12_readsRun_145 rfl 2 rfl ?_
              refine go_iconst hC dX12_readsRun_146 k1_1 ?_
              refine go_bipush hC dX12_readsRun_147 k8_9 ?_
              refine go_bipush hC dX12_readsRun_149 k8_m9 ?_
              obtain ⟨r_21, h_22, hc, hf⟩ := bd_e2 hf
              refine go_callV hC (c_X12_readsFigure x1 x2 1 9 (-9) h_19 h_22 r_21 hc) gX12_readsRun_X12_readsFigure rfl ⟨rfl, rfl⟩ 5 e_X12_readsFigure ⟨Nat.le_of_ble_eq_true rfl, Nat.le_of_ble_eq_true rfl⟩ (b_43 _) rfl rfl (st := []) (st1 := [.int r_21]) rfl rfl (Nat.le_of_ble_eq_true rfl) ⟨Nat.zero_le _, Nat.zero_le _⟩ dX12_readsRun_151 ?_
              refine go_if_ne hC dX12_readsRun_154 (tgt := 159) (by decide) (fun c_26 => ?_) (fun c_26 => ?_)
              · replace hf := if_f c_26 hf
                refine go_aload_n hC dX12_readsRun_159 rfl 0 rfl ?_
                refine go_getr hC (j := 17) (idx := 35) (nm := "readDrilled") (ds := "[I") (b_43 _) rfl rfl hn12 (Nat.le_of_ble_eq_true rfl) rfl rfl (List.mem_cons_of_mem _ (List.mem_append_left _ (List.mem_of_getElem? (i := 6) rfl))) (Or.inl rfl) dX12_readsRun_160 ?_
                refine go_aload_n hC dX12_readsRun_163 rfl 0 rfl ?_
                refine go_geti hC (j := 13) (idx := 129) (nm := "readRuns") (ds := "I") (b_43 _) rfl rfl hn12 (Nat.le_of_ble_eq_true rfl) rfl rfl (List.mem_cons_of_mem _ (List.mem_append_left _ (List.mem_of_getElem? (i := 0) rfl))) (Or.inl rfl) dX12_readsRun_164 ?_
                refine go_aload_n hC dX12_readsRun_167 rfl 0 rfl ?_
                refine go_geti hC (j := 10) (idx := 126) (nm := "readValue") (ds := "I") (b_43 _) rfl rfl hn12 (Nat.le_of_ble_eq_true rfl) rfl rfl (List.mem_cons_of_mem _ (List.mem_append_left _ (List.mem_of_getElem? (i := 3) rfl))) (Or.inl rfl) dX12_readsRun_168 ?_
                obtain ⟨g_23, hf⟩ := ga_e hf
                obtain ⟨h_24, eh_24, hf⟩ := lt_e hf
                refine go_iast hC (b_52 _) g_23 dX12_readsRun_171 ?_
                refine go_toph eh_24 ?_
                refine go_aload_n hC dX12_readsRun_172 rfl 0 rfl ?_
                refine go_dup hC dX12_readsRun_173 rfl ?_
                refine go_geti hC (j := 13) (idx := 129) (nm := "readRuns") (ds := "I") (b_43 _) rfl rfl hn12 (Nat.le_of_ble_eq_true rfl) rfl rfl (List.mem_cons_of_mem _ (List.mem_append_left _ (List.mem_of_getElem? (i := 0) rfl))) (Or.inl rfl) dX12_readsRun_174 ?_
                refine go_iconst hC dX12_readsRun_177 k1_1 ?_
                refine go_iadd hC dX12_readsRun_178 ?_
                obtain ⟨h_25, eh_25, hf⟩ := lt_e hf
                refine go_puti hC tyX12 (j := 13) (idx := 129) (nm := "readRuns") (ds := "I") (b_43 _) rfl rfl hn12 tyX12_ok nmX12 (Nat.le_of_ble_eq_true rfl) rfl rfl (List.mem_cons_of_mem _ (List.mem_append_left _ (List.mem_of_getElem? (i := 0) rfl))) (Or.inl rfl) rfl (tyX12_ok _ (Nat.le_of_ble_eq_true rfl)) dX12_readsRun_179 ?_
                refine go_toph eh_25 ?_
                refine go_iconst hC dX12_readsRun_182 k1_1 ?_
                obtain ⟨rfl, rfl⟩ := so_2 hf
                exact hret _ _ (zo_n (Or.inr rfl)) dX12_readsRun_183
              · replace hf := if_t c_26 hf
                refine go_iconst hC dX12_readsRun_157 k1_0 ?_
                obtain ⟨rfl, rfl⟩ := so_2 hf
                exact hret _ _ (zo_n (Or.inl rfl)) dX12_readsRun_158
          · replace hf := if_t c_28 hf
            refine go_iconst hC dX12_readsRun_107 k1_0 ?_
            obtain ⟨rfl, rfl⟩ := so_2 hf
            exact hret _ _ (zo_n (Or.inl rfl)) dX12_readsRun_108
        · replace hf := if_t c_29 hf
          refine go_iconst hC dX12_readsRun_78 k1_0 ?_
          obtain ⟨rfl, rfl⟩ := so_2 hf
          exact hret _ _ (zo_n (Or.inl rfl)) dX12_readsRun_79
      · replace hf := if_t c_30 hf
        refine go_iconst hC dX12_readsRun_38 k1_0 ?_
        obtain ⟨rfl, rfl⟩ := so_2 hf
        exact hret _ _ (zo_n (Or.inl rfl)) dX12_readsRun_39
def lb_X12_readsHouse_95 (x1 : Int32) (x2 : Int32) (h : PH) : Option ((PH) ⊕ ((Int32 × PH) ⊕ (PH))) :=
  if (h.1 43 13) = 0 then (
  bd_2 (f_X12_readsRun x1 x2 h) fun r_23 h_24 =>
  if r_23 = 0 then (
  some (.inr (.inr h_24)))
  else (
  some (.inl h_24)))
  else (
  if x2 ≤ (h.1 43 9) then (
  some (.inr (.inl ((1, h)))))
  else (
  bd_2 (f_X12_readsRun x1 x2 h) fun r_26 h_27 =>
  if r_26 = 0 then (
  some (.inr (.inr h_27)))
  else (
  some (.inl h_27))))
def f_X12_readsHouse (x1 : Int32) (x2 : Int32) (h : PH) : Option (Int32 × PH) :=
  lt_b (ph_i h 43 9 0) fun h_1 =>
  lt_b (ph_i h_1 43 13 0) fun h_2 =>
  bd_2 (f_X12_takes 104 x1 x2 h_2) fun r_3 h_4 =>
  if r_3 = 0 then (
  some (0, h_4))
  else (
  bd_2 (f_X12_readsFigure x1 x2 2 8 (-9) h_4) fun r_5 h_6 =>
  if r_5 = 0 then (
  some (0, h_6))
  else (
  lt_b (ph_i h_6 43 11 (h_6.1 43 10)) fun h_7 =>
  bd_2 (f_X12_takes 59 x1 x2 h_7) fun r_8 h_9 =>
  if r_8 = 0 then (
  some (0, h_9))
  else (
  bd_2 (f_X12_takes 98 x1 x2 h_9) fun r_10 h_11 =>
  if r_10 = 0 then (
  some (0, h_11))
  else (
  bd_2 (f_X12_readsFigure x1 x2 0 ((h_11.1 43 11) - 1) (-9) h_11) fun r_12 h_13 =>
  if r_12 = 0 then (
  some (0, h_13))
  else (
  lt_b (ph_i h_13 43 12 (h_13.1 43 10)) fun h_14 =>
  bd_1 (lp_f (fun s => lb_X12_readsHouse_95 x1 x2 s) fu_l h_14) fun s_31 => sw_b s_31 (fun r_33 => some r_33) fun e_32 =>
  some (0, e_32))))))
set_option maxRecDepth 100000 in
set_option maxHeartbeats 4000000 in
theorem lw_X12_readsHouse_95 {C : GC} (hC : Cx C cX12_readsHouse 3 wsX12_readsHouse RX12 (some .boolean) (rm_d 3)) (x1 : Int32) (x2 : Int32) : ∀ (n9 : Nat) (h : PH) (y : (Int32 × PH) ⊕ (PH)), lp_f (fun s => lb_X12_readsHouse_95 x1 x2 s) n9 h = some y → ∀ (hk : match y with | .inl r => (∀ (pc : Nat) (L : List (Nat × Value)), narrow .boolean (.int r.1) = .int r.1 → decode cX12_readsHouse pc = .ok (.ireturn, 1) → Go l0_B C 0 0 pc L [.int r.1] r.2) | .inr e => Go l0_B C 0 0 119 [] [] e), Go l0_B C 0 0 95 [(0, .ref 43), (1, .int x1), (2, .int x2)] [] h := by
  have hn12 : ∀ w ∈ wsX120, w ∈ wsX12_readsHouse := (fun _ hw => (List.mem_cons_of_mem _ (List.mem_append_right _ hw)))
  intro n9
  induction n9 with
  | zero =>
    intro h y hlp
    cases hlp
  | succ n9 ih =>
    intro h y hlp hk
    obtain ⟨k9, z, hk9, hf, hy⟩ := lp_e hlp
    cases hk9
    replace hf : lb_X12_readsHouse_95 x1 x2 h = some z := hf
    unfold lb_X12_readsHouse_95 at hf
    refine go_aload_n hC dX12_readsHouse_95 rfl 0 rfl ?_
    refine go_geti hC (j := 13) (idx := 129) (nm := "readRuns") (ds := "I") (b_43 _) rfl rfl hn12 (Nat.le_of_ble_eq_true rfl) rfl rfl (List.mem_cons_of_mem _ (List.mem_append_left _ (List.mem_append_left _ (List.mem_of_getElem? (i := 1) rfl)))) (Or.inl rfl) dX12_readsHouse_96 ?_
    refine go_if_eq hC dX12_readsHouse_99 (tgt := 110) (by decide) (fun c_30 => ?_) (fun c_30 => ?_)
    · replace hf := if_t c_30 hf
      refine go_aload_n hC dX12_readsHouse_110 rfl 0 rfl ?_
      refine go_iload_n hC dX12_readsHouse_111 rfl 1 rfl ?_
      refine go_iload_n hC dX12_readsHouse_112 rfl 2 rfl ?_
      obtain ⟨r_23, h_24, hc, hf⟩ := bd_e2 hf
      refine go_callV hC (c_X12_readsRun x1 x2 h h_24 r_23 hc) gX12_readsHouse_X12_readsRun rfl ⟨rfl, rfl⟩ 2 e_X12_readsRun ⟨Nat.le_of_ble_eq_true rfl, Nat.le_of_ble_eq_true rfl⟩ (b_43 _) rfl rfl (st := []) (st1 := [.int r_23]) rfl rfl (Nat.le_of_ble_eq_true rfl) ⟨Nat.zero_le _, Nat.zero_le _⟩ dX12_readsHouse_113 ?_
      refine go_if_ne hC dX12_readsHouse_116 (tgt := 95) (by decide) (fun c_25 => ?_) (fun c_25 => ?_)
      · replace hf := if_f c_25 hf
        obtain rfl := so_1 hf
        exact ih h_24 _ (lp_c hy) hk
      · replace hf := if_t c_25 hf
        obtain rfl := so_1 hf
        obtain rfl := lp_x hy
        refine go_sub [] rfl ?_
        exact hk
    · replace hf := if_f c_30 hf
      refine go_aload_n hC dX12_readsHouse_102 rfl 0 rfl ?_
      refine go_geti hC (j := 9) (idx := 123) (nm := "readAt") (ds := "I") (b_43 _) rfl rfl hn12 (Nat.le_of_ble_eq_true rfl) rfl rfl (List.mem_cons_of_mem _ (List.mem_append_left _ (List.mem_append_left _ (List.mem_of_getElem? (i := 0) rfl)))) (Or.inl rfl) dX12_readsHouse_103 ?_
      refine go_iload_n hC dX12_readsHouse_106 rfl 2 rfl ?_
      refine go_icmp_ge hC dX12_readsHouse_107 (tgt := 121) (by decide) (fun c_29 => ?_) (fun c_29 => ?_)
      · replace hf := if_t c_29 hf
        refine go_iconst hC dX12_readsHouse_121 k1_1 ?_
        obtain rfl := so_1 hf
        obtain rfl := lp_x hy
        exact hk _ _ (zo_n (Or.inr rfl)) dX12_readsHouse_122
      · replace hf := if_f c_29 hf
        refine go_aload_n hC dX12_readsHouse_110 rfl 0 rfl ?_
        refine go_iload_n hC dX12_readsHouse_111 rfl 1 rfl ?_
        refine go_iload_n hC dX12_readsHouse_112 rfl 2 rfl ?_
        obtain ⟨r_26, h_27, hc, hf⟩ := bd_e2 hf
        refine go_callV hC (c_X12_readsRun x1 x2 h h_27 r_26 hc) gX12_readsHouse_X12_readsRun rfl ⟨rfl, rfl⟩ 2 e_X12_readsRun ⟨Nat.le_of_ble_eq_true rfl, Nat.le_of_ble_eq_true rfl⟩ (b_43 _) rfl rfl (st := []) (st1 := [.int r_26]) rfl rfl (Nat.le_of_ble_eq_true rfl) ⟨Nat.zero_le _, Nat.zero_le _⟩ dX12_readsHouse_113 ?_
        refine go_if_ne hC dX12_readsHouse_116 (tgt := 95) (by decide) (fun c_28 => ?_) (fun c_28 => ?_)
        · replace hf := if_f c_28 hf
          obtain rfl := so_1 hf
          exact ih h_27 _ (lp_c hy) hk
        · replace hf := if_t c_28 hf
          obtain rfl := so_1 hf
          obtain rfl := lp_x hy
          refine go_sub [] rfl ?_
          exact hk
theorem e_X12_readsHouse : yX12_readsHouse.cls = RX12 ∧ yX12_readsHouse.cls ≠ "java/lang/invoke/MethodHandle" ∧ yX12_readsHouse.cls ≠ "java/lang/invoke/VarHandle" ∧ (parseMethodDescriptor yX12_readsHouse.desc).map (fun d => d.parameters.length) = some 2 := by decide +kernel
set_option maxRecDepth 100000 in
set_option maxHeartbeats 4000000 in
theorem c_X12_readsHouse (x1 : Int32) (x2 : Int32) (h : PH) (h2 : PH) (r : Int32) (hf : f_X12_readsHouse x1 x2 h = some (r, h2)) : Con yX12_readsHouse wsX12_readsHouse (rm_d 3) l0_B [.ref 43, .int x1, .int x2] h (some (.int r)) h2 := by
  have hn12 : ∀ w ∈ wsX120, w ∈ wsX12_readsHouse := (fun _ hw => (List.mem_cons_of_mem _ (List.mem_append_right _ hw)))
  refine con_i (ty := .boolean) (cc := cX12_readsHouse) (nL := 3) (by decide) rfl (Nat.le_of_ble_eq_true rfl) ?_
  intro C hC hret
  change Go l0_B C 0 0 0 [(0, .ref 43), (1, .int x1), (2, .int x2)] [] h
  unfold f_X12_readsHouse at hf
  refine go_aload_n hC dX12_readsHouse_0 rfl 0 rfl ?_
  refine go_iconst hC dX12_readsHouse_1 k1_0 ?_
  obtain ⟨h_1, eh_1, hf⟩ := lt_e hf
  refine go_puti hC tyX12 (j := 9) (idx := 123) (nm := "readAt") (ds := "I") (b_43 _) rfl rfl hn12 tyX12_ok nmX12 (Nat.le_of_ble_eq_true rfl) rfl rfl (List.mem_cons_of_mem _ (List.mem_append_left _ (List.mem_append_left _ (List.mem_of_getElem? (i := 0) rfl)))) (Or.inl rfl) rfl (tyX12_ok _ (Nat.le_of_ble_eq_true rfl)) dX12_readsHouse_2 ?_
  refine go_toph eh_1 ?_
  refine go_aload_n hC dX12_readsHouse_5 rfl 0 rfl ?_
  refine go_iconst hC dX12_readsHouse_6 k1_0 ?_
  obtain ⟨h_2, eh_2, hf⟩ := lt_e hf
  refine go_puti hC tyX12 (j := 13) (idx := 129) (nm := "readRuns") (ds := "I") (b_43 _) rfl rfl hn12 tyX12_ok nmX12 (Nat.le_of_ble_eq_true rfl) rfl rfl (List.mem_cons_of_mem _ (List.mem_append_left _ (List.mem_append_left _ (List.mem_of_getElem? (i := 1) rfl)))) (Or.inl rfl) rfl (tyX12_ok _ (Nat.le_of_ble_eq_true rfl)) dX12_readsHouse_7 ?_
  refine go_toph eh_2 ?_
  refine go_aload_n hC dX12_readsHouse_10 rfl 0 rfl ?_
  refine go_bipush hC dX12_readsHouse_11 k8_104 ?_
  refine go_iload_n hC dX12_readsHouse_13 rfl 1 rfl ?_
  refine go_iload_n hC dX12_readsHouse_14 rfl 2 rfl ?_
  obtain ⟨r_3, h_4, hc, hf⟩ := bd_e2 hf
  refine go_callV hC (c_X12_takes 104 x1 x2 h_2 h_4 r_3 hc) gX12_readsHouse_X12_takes rfl ⟨rfl, rfl⟩ 3 e_X12_takes ⟨Nat.le_of_ble_eq_true rfl, Nat.le_of_ble_eq_true rfl⟩ (b_43 _) rfl rfl (st := []) (st1 := [.int r_3]) rfl rfl (Nat.le_of_ble_eq_true rfl) ⟨Nat.zero_le _, Nat.zero_le _⟩ dX12_readsHouse_15 ?_
  refine go_if_eq hC dX12_readsHouse_18 (tgt := 35) (by decide) (fun c_38 => ?_) (fun c_38 => ?_)
  · replace hf := if_t c_38 hf
    refine go_iconst hC dX12_readsHouse_35 k1_0 ?_
    obtain ⟨rfl, rfl⟩ := so_2 hf
    exact hret _ _ (zo_n (Or.inl rfl)) dX12_readsHouse_36
  · replace hf := if_f c_38 hf
    refine go_aload_n hC dX12_readsHouse_21 rfl 0 rfl ?_
    refine go_iload_n hC dX12_readsHouse_22 rfl 1 rfl ?_
    refine go_iload_n hC dX12_readsHouse_23 rfl 2 rfl ?_
    refine go_iconst hC dX12_readsHouse_24 k1_2 ?_
    refine go_bipush hC dX12_readsHouse_25 k8_8 ?_
    refine go_bipush hC dX12_readsHouse_27 k8_m9 ?_
    obtain ⟨r_5, h_6, hc, hf⟩ := bd_e2 hf
    refine go_callV hC (c_X12_readsFigure x1 x2 2 8 (-9) h_4 h_6 r_5 hc) gX12_readsHouse_X12_readsFigure rfl ⟨rfl, rfl⟩ 5 e_X12_readsFigure ⟨Nat.le_of_ble_eq_true rfl, Nat.le_of_ble_eq_true rfl⟩ (b_43 _) rfl rfl (st := []) (st1 := [.int r_5]) rfl rfl (Nat.le_of_ble_eq_true rfl) ⟨Nat.zero_le _, Nat.zero_le _⟩ dX12_readsHouse_29 ?_
    refine go_if_ne hC dX12_readsHouse_32 (tgt := 37) (by decide) (fun c_37 => ?_) (fun c_37 => ?_)
    · replace hf := if_f c_37 hf
      refine go_aload_n hC dX12_readsHouse_37 rfl 0 rfl ?_
      refine go_aload_n hC dX12_readsHouse_38 rfl 0 rfl ?_
      refine go_geti hC (j := 10) (idx := 126) (nm := "readValue") (ds := "I") (b_43 _) rfl rfl hn12 (Nat.le_of_ble_eq_true rfl) rfl rfl (List.mem_cons_of_mem _ (List.mem_append_left _ (List.mem_append_left _ (List.mem_of_getElem? (i := 2) rfl)))) (Or.inl rfl) dX12_readsHouse_39 ?_
      obtain ⟨h_7, eh_7, hf⟩ := lt_e hf
      refine go_puti hC tyX12 (j := 11) (idx := 136) (nm := "readPlaces") (ds := "I") (b_43 _) rfl rfl hn12 tyX12_ok nmX12 (Nat.le_of_ble_eq_true rfl) rfl rfl (List.mem_cons_of_mem _ (List.mem_append_left _ (List.mem_append_left _ (List.mem_of_getElem? (i := 3) rfl)))) (Or.inl rfl) rfl (tyX12_ok _ (Nat.le_of_ble_eq_true rfl)) dX12_readsHouse_42 ?_
      refine go_toph eh_7 ?_
      refine go_aload_n hC dX12_readsHouse_45 rfl 0 rfl ?_
      refine go_bipush hC dX12_readsHouse_46 k8_59 ?_
      refine go_iload_n hC dX12_readsHouse_48 rfl 1 rfl ?_
      refine go_iload_n hC dX12_readsHouse_49 rfl 2 rfl ?_
      obtain ⟨r_8, h_9, hc, hf⟩ := bd_e2 hf
      refine go_callV hC (c_X12_takes 59 x1 x2 h_7 h_9 r_8 hc) gX12_readsHouse_X12_takes rfl ⟨rfl, rfl⟩ 3 e_X12_takes ⟨Nat.le_of_ble_eq_true rfl, Nat.le_of_ble_eq_true rfl⟩ (b_43 _) rfl rfl (st := []) (st1 := [.int r_8]) rfl rfl (Nat.le_of_ble_eq_true rfl) ⟨Nat.zero_le _, Nat.zero_le _⟩ dX12_readsHouse_50 ?_
      refine go_if_eq hC dX12_readsHouse_53 (tgt := 85) (by decide) (fun c_36 => ?_) (fun c_36 => ?_)
      · replace hf := if_t c_36 hf
        refine go_iconst hC dX12_readsHouse_85 k1_0 ?_
        obtain ⟨rfl, rfl⟩ := so_2 hf
        exact hret _ _ (zo_n (Or.inl rfl)) dX12_readsHouse_86
      · replace hf := if_f c_36 hf
        refine go_aload_n hC dX12_readsHouse_56 rfl 0 rfl ?_
        refine go_bipush hC dX12_readsHouse_57 k8_98 ?_
        refine go_iload_n hC dX12_readsHouse_59 rfl 1 rfl ?_
        refine go_iload_n hC dX12_readsHouse_60 rfl 2 rfl ?_
        obtain ⟨r_10, h_11, hc, hf⟩ := bd_e2 hf
        refine go_callV hC (c_X12_takes 98 x1 x2 h_9 h_11 r_10 hc) gX12_readsHouse_X12_takes rfl ⟨rfl, rfl⟩ 3 e_X12_takes ⟨Nat.le_of_ble_eq_true rfl, Nat.le_of_ble_eq_true rfl⟩ (b_43 _) rfl rfl (st := []) (st1 := [.int r_10]) rfl rfl (Nat.le_of_ble_eq_true rfl) ⟨Nat.zero_le _, Nat.zero_le _⟩ dX12_readsHouse_61 ?_
        refine go_if_eq hC dX12_readsHouse_64 (tgt := 85) (by decide) (fun c_35 => ?_) (fun c_35 => ?_)
        · replace hf := if_t c_35 hf
          refine go_iconst hC dX12_readsHouse_85 k1_0 ?_
          obtain ⟨rfl, rfl⟩ := so_2 hf
          exact hret _ _ (zo_n (Or.inl rfl)) dX12_readsHouse_86
        · replace hf := if_f c_35 hf
          refine go_aload_n hC dX12_readsHouse_67 rfl 0 rfl ?_
          refine go_iload_n hC dX12_readsHouse_68 rfl 1 rfl ?_
          refine go_iload_n hC dX12_readsHouse_69 rfl 2 rfl ?_
          refine go_iconst hC dX12_readsHouse_70 k1_0 ?_
          refine go_aload_n hC dX12_readsHouse_71 rfl 0 rfl ?_
          refine go_geti hC (j := 11) (idx := 136) (nm := "readPlaces") (ds := "I") (b_43 _) rfl rfl hn12 (Nat.le_of_ble_eq_true rfl) rfl rfl (List.mem_cons_of_mem _ (List.mem_append_left _ (List.mem_append_left _ (List.mem_of_getElem? (i := 3) rfl)))) (Or.inl rfl) dX12_readsHouse_72 ?_
          refine go_iconst hC dX12_readsHouse_75 k1_1 ?_
          refine go_isub hC dX12_readsHouse_76 ?_
          refine go_bipush hC dX12_readsHouse_77 k8_m9 ?_
          obtain ⟨r_12, h_13, hc, hf⟩ := bd_e2 hf
          refine go_callV hC (c_X12_readsFigure x1 x2 0 ((h_11.1 43 11) - 1) (-9) h_11 h_13 r_12 hc) gX12_readsHouse_X12_readsFigure rfl ⟨rfl, rfl⟩ 5 e_X12_readsFigure ⟨Nat.le_of_ble_eq_true rfl, Nat.le_of_ble_eq_true rfl⟩ (b_43 _) rfl rfl (st := []) (st1 := [.int r_12]) rfl rfl (Nat.le_of_ble_eq_true rfl) ⟨Nat.zero_le _, Nat.zero_le _⟩ dX12_readsHouse_79 ?_
          refine go_if_ne hC dX12_readsHouse_82 (tgt := 87) (by decide) (fun c_34 => ?_) (fun c_34 => ?_)
          · replace hf := if_f c_34 hf
            refine go_aload_n hC dX12_readsHouse_87 rfl 0 rfl ?_
            refine go_aload_n hC dX12_readsHouse_88 rfl 0 rfl ?_
            refine go_geti hC (j := 10) (idx := 126) (nm := "readValue") (ds := "I") (b_43 _) rfl rfl hn12 (Nat.le_of_ble_eq_true rfl) rfl rfl (List.mem_cons_of_mem _ (List.mem_append_left _ (List.mem_append_left _ (List.mem_of_getElem? (i := 2) rfl)))) (Or.inl rfl) dX12_readsHouse_89 ?_
            obtain ⟨h_14, eh_14, hf⟩ := lt_e hf
            refine go_puti hC tyX12 (j := 12) (idx := 143) (nm := "readBox") (ds := "I") (b_43 _) rfl rfl hn12 tyX12_ok nmX12 (Nat.le_of_ble_eq_true rfl) rfl rfl (List.mem_cons_of_mem _ (List.mem_append_left _ (List.mem_append_left _ (List.mem_of_getElem? (i := 4) rfl)))) (Or.inl rfl) rfl (tyX12_ok _ (Nat.le_of_ble_eq_true rfl)) dX12_readsHouse_92 ?_
            refine go_toph eh_14 ?_
            obtain ⟨s_31, hl, hf⟩ := bd_e1 hf
            refine lw_X12_readsHouse_95 hC x1 x2 _ h_14 s_31 hl ?_
            rcases s_31 with r_33 | e_32
            · replace hf : some r_33 = some _ := hf
              cases hf
              exact hret
            · replace hf := sw_r hf
              refine go_iconst hC dX12_readsHouse_119 k1_0 ?_
              obtain ⟨rfl, rfl⟩ := so_2 hf
              exact hret _ _ (zo_n (Or.inl rfl)) dX12_readsHouse_120
          · replace hf := if_t c_34 hf
            refine go_iconst hC dX12_readsHouse_85 k1_0 ?_
            obtain ⟨rfl, rfl⟩ := so_2 hf
            exact hret _ _ (zo_n (Or.inl rfl)) dX12_readsHouse_86
    · replace hf := if_t c_37 hf
      refine go_iconst hC dX12_readsHouse_35 k1_0 ?_
      obtain ⟨rfl, rfl⟩ := so_2 hf
      exact hret _ _ (zo_n (Or.inl rfl)) dX12_readsHouse_36
def f_X12_noSheet (x0 : Int32) (h : PH) : Option (Int32) :=
  bd_1 (f_X12_in x0.toInt64 0 3 h) fun r_1 =>
  if r_1 = 0 then (
  some 1)
  else (
  some 0)
theorem e_X12_noSheet : yX12_noSheet.cls ≠ "java/lang/invoke/MethodHandle" ∧ yX12_noSheet.cls ≠ "java/lang/invoke/VarHandle" ∧ (parseMethodDescriptor yX12_noSheet.desc).map (fun d => d.parameters.length) = some 1 := by decide +kernel
set_option maxRecDepth 100000 in
set_option maxHeartbeats 4000000 in
theorem c_X12_noSheet (x0 : Int32) (h : PH) (r : Int32) (hf : f_X12_noSheet x0 h = some r) : Con yX12_noSheet wsX12_noSheet (rm_d 1) l0_B [.int x0] h (some (.int r)) h := by

  refine con_i (ty := .boolean) (cc := cX12_noSheet) (nL := 1) (by decide) rfl (Nat.le_of_ble_eq_true rfl) ?_
  intro C hC hret
  change Go l0_B C 0 0 0 [(0, .int x0)] [] h
  unfold f_X12_noSheet at hf
  refine go_iload_n hC dX12_noSheet_0 rfl 0 rfl ?_
  refine go_i2l hC dX12_noSheet_1 ?_
  refine go_lconst hC dX12_noSheet_2 (v := 0) rfl ?_
  refine go_ldc2 hC (v := 3) (List.mem_cons_of_mem _ (List.mem_of_getElem? (i := 0) rfl)) dX12_noSheet_3 ?_
  obtain ⟨r_1, hc, hf⟩ := bd_e1 hf
  refine go_callS hC (c_X12_in x0.toInt64 0 3 h r_1 hc) gX12_noSheet_X12_in rfl ⟨rfl, rfl⟩ 3 e_X12_in ⟨Nat.le_of_ble_eq_true rfl, Nat.le_of_ble_eq_true rfl⟩ rfl (st := []) (st1 := [.int r_1]) rfl rfl (Nat.le_of_ble_eq_true rfl) ⟨Nat.zero_le _, Nat.zero_le _⟩ dX12_noSheet_6 ?_
  refine go_if_ne hC dX12_noSheet_9 (tgt := 16) (by decide) (fun c_2 => ?_) (fun c_2 => ?_)
  · replace hf := if_f c_2 hf
    refine go_iconst hC dX12_noSheet_16 k1_0 ?_
    obtain rfl := so_1 hf
    exact hret _ _ (zo_n (Or.inl rfl)) dX12_noSheet_17
  · replace hf := if_t c_2 hf
    refine go_iconst hC dX12_noSheet_12 k1_1 ?_
    refine go_goto hC dX12_noSheet_13 (tgt := 17) (by decide) ?_
    obtain rfl := so_1 hf
    exact hret _ _ (zo_n (Or.inr rfl)) dX12_noSheet_17
def f_X12_costOf (x1 : Int32) (h : PH) : Option (Int32) :=
  ga_i x1 14 (
  ga_i x1 14 (
  some ((1000 * (h.1 46 x1.toNatClampNeg)) + (h.1 47 x1.toNatClampNeg))))
theorem e_X12_costOf : yX12_costOf.cls = RX12 ∧ yX12_costOf.cls ≠ "java/lang/invoke/MethodHandle" ∧ yX12_costOf.cls ≠ "java/lang/invoke/VarHandle" ∧ (parseMethodDescriptor yX12_costOf.desc).map (fun d => d.parameters.length) = some 1 := by decide +kernel
set_option maxRecDepth 100000 in
set_option maxHeartbeats 4000000 in
theorem c_X12_costOf (x1 : Int32) (h : PH) (r : Int32) (hf : f_X12_costOf x1 h = some r) : Con yX12_costOf wsX12_costOf (rm_d 0) l0_B [.ref 43, .int x1] h (some (.int r)) h := by
  have hn12 : ∀ w ∈ wsX120, w ∈ wsX12_costOf := (fun _ hw => (List.mem_cons_of_mem _ (List.mem_append_right _ hw)))
  refine con_i (ty := .int) (cc := cX12_costOf) (nL := 2) (by decide) rfl (Nat.le_of_ble_eq_true rfl) ?_
  intro C hC hret
  change Go l0_B C 0 0 0 [(0, .ref 43), (1, .int x1)] [] h
  unfold f_X12_costOf at hf
  refine go_sipush hC dX12_costOf_0 k16_1000 ?_
  refine go_aload_n hC dX12_costOf_3 rfl 0 rfl ?_
  refine go_getr hC (j := 6) (idx := 16) (nm := "runYards") (ds := "[I") (b_43 _) rfl rfl hn12 (Nat.le_of_ble_eq_true rfl) rfl rfl (List.mem_cons_of_mem _ (List.mem_append_left _ (List.mem_of_getElem? (i := 0) rfl))) (Or.inl rfl) dX12_costOf_4 ?_
  refine go_iload_n hC dX12_costOf_7 rfl 1 rfl ?_
  obtain ⟨g_1, hf⟩ := ga_e hf
  refine go_iald hC (b_46 _) g_1 dX12_costOf_8 ?_
  refine go_imul hC dX12_costOf_9 ?_
  refine go_aload_n hC dX12_costOf_10 rfl 0 rfl ?_
  refine go_getr hC (j := 7) (idx := 19) (nm := "runDrilled") (ds := "[I") (b_43 _) rfl rfl hn12 (Nat.le_of_ble_eq_true rfl) rfl rfl (List.mem_cons_of_mem _ (List.mem_append_left _ (List.mem_of_getElem? (i := 1) rfl))) (Or.inl rfl) dX12_costOf_11 ?_
  refine go_iload_n hC dX12_costOf_14 rfl 1 rfl ?_
  obtain ⟨g_2, hf⟩ := ga_e hf
  refine go_iald hC (b_47 _) g_2 dX12_costOf_15 ?_
  refine go_iadd hC dX12_costOf_16 ?_
  obtain rfl := so_1 hf
  exact hret _ _ rfl dX12_costOf_17
def lb_X12_layFar_2  (x1 : Int32) (h : PH) : Option ((Int32 × PH) ⊕ (Int32 × PH)) :=
  if 64 ≤ x1 then (
  some (.inr (x1, h)))
  else (
  if (x1 - x1 / 9 * 9) = 0 then (
  ga_i x1 64 (
  lt_b (ph_i h 53 x1.toNatClampNeg 0) fun h_13 =>
  lt_b (x1 + 1) fun x1_14 =>
  some (.inl (x1_14, h_13))))
  else (
  ga_i x1 64 (
  lt_b (ph_i h 53 x1.toNatClampNeg 10000000) fun h_10 =>
  lt_b (x1 + 1) fun x1_11 =>
  some (.inl (x1_11, h_10)))))
def lb_X12_layFar_55 (x1 : Int32) (x2 : Int32) (x3 : Int32) (h : PH) : Option ((Int32 × PH) ⊕ (Int32 × PH)) :=
  if (h.1 43 1) ≤ x3 then (
  some (.inr (x3, h)))
  else (
  ga_i x2 14 (
  if (h.1 48 x2.toNatClampNeg) = 0 then (
  ga_i x2 14 (
  lt_b ((8 * (h.1 44 x2.toNatClampNeg)) + x3) fun x4_40 =>
  ga_i x2 14 (
  lt_b ((8 * (h.1 45 x2.toNatClampNeg)) + x3) fun x5_42 =>
  ga_i x4_40 64 (
  ga_i x5_42 64 (
  bd_1 (f_X12_costOf x2 h) fun r_45 =>
  bd_1 (f_X12_lesser (h.1 53 x4_40.toNatClampNeg) ((h.1 53 x5_42.toNatClampNeg) + r_45) h) fun r_46 =>
  ga_i x4_40 64 (
  lt_b (ph_i h 53 x4_40.toNatClampNeg r_46) fun h_48 =>
  ga_i x5_42 64 (
  ga_i x4_40 64 (
  bd_1 (f_X12_costOf x2 h_48) fun r_51 =>
  bd_1 (f_X12_lesser (h_48.1 53 x5_42.toNatClampNeg) ((h_48.1 53 x4_40.toNatClampNeg) + r_51) h_48) fun r_52 =>
  ga_i x5_42 64 (
  lt_b (ph_i h_48 53 x5_42.toNatClampNeg r_52) fun h_54 =>
  lt_b (x3 + 1) fun x3_55 =>
  some (.inl (x3_55, h_54)))))))))))
  else (
  some (.inr (x3, h)))))
def lb_X12_layFar_45 (x1 : Int32) (x2 : Int32) (h : PH) : Option ((Int32 × PH) ⊕ (Int32 × PH)) :=
  if (h.1 43 3) ≤ x2 then (
  some (.inr (x2, h)))
  else (
  bd_1 (lp_f (fun s => lb_X12_layFar_55 x1 x2 s.1 s.2) fu_l (0, h)) fun s_61 =>
  lt_b (x2 + 1) fun x2_62 =>
  some (.inl (x2_62, s_61.2)))
def lb_X12_layFar_35  (x1 : Int32) (h : PH) : Option ((Int32 × PH) ⊕ (Int32 × PH)) :=
  if (h.1 43 1) ≤ x1 then (
  some (.inr (x1, h)))
  else (
  bd_1 (lp_f (fun s => lb_X12_layFar_45 x1 s.1 s.2) fu_l (0, h)) fun s_67 =>
  lt_b (x1 + 1) fun x1_68 =>
  some (.inl (x1_68, s_67.2)))
def f_X12_layFar (h : PH) : Option (Unit × PH) :=
  bd_1 (lp_f (fun s => lb_X12_layFar_2  s.1 s.2) fu_l (0, h)) fun s_17 =>
  bd_1 (lp_f (fun s => lb_X12_layFar_35  s.1 s.2) fu_l (1, s_17.2)) fun s_70 =>
  some ((), s_70.2)
set_option maxRecDepth 100000 in
set_option maxHeartbeats 4000000 in
theorem lw_X12_layFar_2 {C : GC} (hC : Cx C cX12_layFar 6 wsX12_layFar RX12 none (rm_d 1))  : ∀ (n9 : Nat) (x1 : Int32) (h : PH) (y : Int32 × PH), lp_f (fun s => lb_X12_layFar_2  s.1 s.2) n9 (x1, h) = some y → ∀ (hk : Go l0_B C 0 0 33 [(0, .ref 43)] [] y.2), Go l0_B C 0 0 2 [(0, .ref 43), (1, .int x1)] [] h := by
  have hn12 : ∀ w ∈ wsX120, w ∈ wsX12_layFar := (fun _ hw => (List.mem_cons_of_mem _ (List.mem_append_right _ hw)))
  intro n9
  induction n9 with
  | zero =>
    intro x1 h y hlp
    cases hlp
  | succ n9 ih =>
    intro x1 h y hlp hk
    obtain ⟨k9, z, hk9, hf, hy⟩ := lp_e hlp
    cases hk9
    replace hf : lb_X12_layFar_2  x1 h = some z := hf
    unfold lb_X12_layFar_2 at hf
    refine go_iload_n hC dX12_layFar_2 rfl 1 rfl ?_
    refine go_bipush hC dX12_layFar_3 k8_64 ?_
    refine go_icmp_ge hC dX12_layFar_5 (tgt := 33) (by decide) (fun c_16 => ?_) (fun c_16 => ?_)
    · replace hf := if_t c_16 hf
      obtain rfl := so_1 hf
      obtain rfl := lp_x hy
      refine go_sub [0] rfl ?_
      exact hk
    · replace hf := if_f c_16 hf
      refine go_aload_n hC dX12_layFar_8 rfl 0 rfl ?_
      refine go_getr hC (j := 18) (idx := 38) (nm := "far") (ds := "[I") (b_43 _) rfl rfl hn12 (Nat.le_of_ble_eq_true rfl) rfl rfl (List.mem_cons_of_mem _ (List.mem_append_left _ (List.mem_of_getElem? (i := 0) rfl))) (Or.inl rfl) dX12_layFar_9 ?_
      refine go_iload_n hC dX12_layFar_12 rfl 1 rfl ?_
      refine go_iload_n hC dX12_layFar_13 rfl 1 rfl ?_
      refine go_bipush hC dX12_layFar_14 k8_9 ?_
      refine go_irem hC dX12_layFar_16 (by decide) ?_
      refine go_if_ne hC dX12_layFar_17 (tgt := 24) (by decide) (fun c_15 => ?_) (fun c_15 => ?_)
      · replace hf := if_f c_15 hf
        refine go_ldc hC (v := 10000000) (List.mem_cons_of_mem _ (List.mem_append_left _ (List.mem_of_getElem? (i := 1) rfl))) dX12_layFar_24 ?_
        obtain ⟨g_9, hf⟩ := ga_e hf
        obtain ⟨h_10, eh_10, hf⟩ := lt_e hf
        refine go_iast hC (b_53 _) g_9 dX12_layFar_26 ?_
        refine go_toph eh_10 ?_
        obtain ⟨x1_11, ex1_11, hf⟩ := lt_e hf
        refine go_iinc hC dX12_layFar_27 1 rfl k1_1 ex1_11 (Nat.le_of_ble_eq_true rfl) rfl ?_
        refine go_goto hC dX12_layFar_30 (tgt := 2) (by decide) ?_
        obtain rfl := so_1 hf
        refine go_sub [1, 0] rfl ?_
        exact ih x1_11 h_10 _ (lp_c hy) hk
      · replace hf := if_t c_15 hf
        refine go_iconst hC dX12_layFar_20 k1_0 ?_
        refine go_goto hC dX12_layFar_21 (tgt := 26) (by decide) ?_
        obtain ⟨g_12, hf⟩ := ga_e hf
        obtain ⟨h_13, eh_13, hf⟩ := lt_e hf
        refine go_iast hC (b_53 _) g_12 dX12_layFar_26 ?_
        refine go_toph eh_13 ?_
        obtain ⟨x1_14, ex1_14, hf⟩ := lt_e hf
        refine go_iinc hC dX12_layFar_27 1 rfl k1_1 ex1_14 (Nat.le_of_ble_eq_true rfl) rfl ?_
        refine go_goto hC dX12_layFar_30 (tgt := 2) (by decide) ?_
        obtain rfl := so_1 hf
        refine go_sub [1, 0] rfl ?_
        exact ih x1_14 h_13 _ (lp_c hy) hk
set_option maxRecDepth 100000 in
set_option maxHeartbeats 4000000 in
theorem lw_X12_layFar_55 {C : GC} (hC : Cx C cX12_layFar 6 wsX12_layFar RX12 none (rm_d 1)) (x1 : Int32) (x2 : Int32) : ∀ (n9 : Nat) (x3 : Int32) (h : PH) (y : Int32 × PH), lp_f (fun s => lb_X12_layFar_55 x1 x2 s.1 s.2) n9 (x3, h) = some y → ∀ (hk : Go l0_B C 0 0 164 [(0, .ref 43), (1, .int x1), (2, .int x2)] [] y.2), Go l0_B C 0 0 55 [(0, .ref 43), (1, .int x1), (2, .int x2), (3, .int x3)] [] h := by
  have hn12 : ∀ w ∈ wsX120, w ∈ wsX12_layFar := (fun _ hw => (List.mem_cons_of_mem _ (List.mem_append_right _ hw)))
  intro n9
  induction n9 with
  | zero =>
    intro x3 h y hlp
    cases hlp
  | succ n9 ih =>
    intro x3 h y hlp hk
    obtain ⟨k9, z, hk9, hf, hy⟩ := lp_e hlp
    cases hk9
    replace hf : lb_X12_layFar_55 x1 x2 x3 h = some z := hf
    unfold lb_X12_layFar_55 at hf
    refine go_iload_n hC dX12_layFar_55 rfl 3 rfl ?_
    refine go_aload_n hC dX12_layFar_56 rfl 0 rfl ?_
    refine go_geti hC (j := 1) (idx := 117) (nm := "places") (ds := "I") (b_43 _) rfl rfl hn12 (Nat.le_of_ble_eq_true rfl) rfl rfl (List.mem_cons_of_mem _ (List.mem_append_left _ (List.mem_of_getElem? (i := 2) rfl))) (Or.inl rfl) dX12_layFar_57 ?_
    refine go_icmp_ge hC dX12_layFar_60 (tgt := 164) (by decide) (fun c_57 => ?_) (fun c_57 => ?_)
    · replace hf := if_t c_57 hf
      obtain rfl := so_1 hf
      obtain rfl := lp_x hy
      refine go_sub [0, 1, 2] rfl ?_
      exact hk
    · replace hf := if_f c_57 hf
      refine go_aload_n hC dX12_layFar_63 rfl 0 rfl ?_
      refine go_getr hC (j := 8) (idx := 22) (nm := "isShut") (ds := "[Z") (b_43 _) rfl rfl hn12 (Nat.le_of_ble_eq_true rfl) rfl rfl (List.mem_cons_of_mem _ (List.mem_append_left _ (List.mem_of_getElem? (i := 4) rfl))) (Or.inl rfl) dX12_layFar_64 ?_
      refine go_iload_n hC dX12_layFar_67 rfl 2 rfl ?_
      obtain ⟨g_38, hf⟩ := ga_e hf
      refine go_zald hC (b_48 _) g_38 dX12_layFar_68 ?_
      refine go_if_ne hC dX12_layFar_69 (tgt := 164) (by decide) (fun c_56 => ?_) (fun c_56 => ?_)
      · replace hf := if_f c_56 hf
        obtain rfl := so_1 hf
        obtain rfl := lp_x hy
        refine go_sub [0, 1, 2] rfl ?_
        exact hk
      · replace hf := if_t c_56 hf
        refine go_bipush hC dX12_layFar_72 k8_8 ?_
        refine go_aload_n hC dX12_layFar_74 rfl 0 rfl ?_
        refine go_getr hC (j := 4) (idx := 7) (nm := "runOne") (ds := "[I") (b_43 _) rfl rfl hn12 (Nat.le_of_ble_eq_true rfl) rfl rfl (List.mem_cons_of_mem _ (List.mem_append_left _ (List.mem_of_getElem? (i := 5) rfl))) (Or.inl rfl) dX12_layFar_75 ?_
        refine go_iload_n hC dX12_layFar_78 rfl 2 rfl ?_
        obtain ⟨g_39, hf⟩ := ga_e hf
        refine go_iald hC (b_44 _) g_39 dX12_layFar_79 ?_
        refine go_imul hC dX12_layFar_80 ?_
        refine go_iload_n hC dX12_layFar_81 rfl 3 rfl ?_
        refine go_iadd hC dX12_layFar_82 ?_
        obtain ⟨x4_40, ex4_40, hf⟩ := lt_e hf
        refine go_topi ex4_40 ?_
        refine go_istore hC dX12_layFar_83 (Nat.le_of_ble_eq_true rfl) rfl ?_
        refine go_bipush hC dX12_layFar_85 k8_8 ?_
        refine go_aload_n hC dX12_layFar_87 rfl 1 rfl ?_
        refine go_getr hC (j := 5) (idx := 13) (nm := "runTwo") (ds := "[I") (b_43 _) rfl rfl hn12 (Nat.le_of_ble_eq_true rfl) rfl rfl (List.mem_cons_of_mem _ (List.mem_append_left _ (List.mem_of_getElem? (i := 6) rfl))) (Or.inl rfl) dX12_layFar_88 ?_
        refine go_iload_n hC dX12_layFar_91 rfl 3 rfl ?_
        obtain ⟨g_41, hf⟩ := ga_e hf
        refine go_iald hC (b_45 _) g_41 dX12_layFar_92 ?_
        refine go_imul hC dX12_layFar_93 ?_
        refine go_iload_n hC dX12_layFar_94 rfl 4 rfl ?_
        refine go_iadd hC dX12_layFar_95 ?_
        obtain ⟨x5_42, ex5_42, hf⟩ := lt_e hf
        refine go_topi ex5_42 ?_
        refine go_istore hC dX12_layFar_96 (Nat.le_of_ble_eq_true rfl) rfl ?_
        refine go_aload_n hC dX12_layFar_98 rfl 2 rfl ?_
        refine go_getr hC (j := 18) (idx := 38) (nm := "far") (ds := "[I") (b_43 _) rfl rfl hn12 (Nat.le_of_ble_eq_true rfl) rfl rfl (List.mem_cons_of_mem _ (List.mem_append_left _ (List.mem_of_getElem? (i := 0) rfl))) (Or.inl rfl) dX12_layFar_99 ?_
        refine go_iload hC dX12_layFar_102 1 rfl ?_
        refine go_aload_n hC dX12_layFar_104 rfl 2 rfl ?_
        refine go_getr hC (j := 18) (idx := 38) (nm := "far") (ds := "[I") (b_43 _) rfl rfl hn12 (Nat.le_of_ble_eq_true rfl) rfl rfl (List.mem_cons_of_mem _ (List.mem_append_left _ (List.mem_of_getElem? (i := 0) rfl))) (Or.inl rfl) dX12_layFar_105 ?_
        refine go_iload hC dX12_layFar_108 1 rfl ?_
        obtain ⟨g_43, hf⟩ := ga_e hf
        refine go_iald hC (b_53 _) g_43 dX12_layFar_110 ?_
        refine go_aload_n hC dX12_layFar_111 rfl 2 rfl ?_
        refine go_getr hC (j := 18) (idx := 38) (nm := "far") (ds := "[I") (b_43 _) rfl rfl hn12 (Nat.le_of_ble_eq_true rfl) rfl rfl (List.mem_cons_of_mem _ (List.mem_append_left _ (List.mem_of_getElem? (i := 0) rfl))) (Or.inl rfl) dX12_layFar_112 ?_
        refine go_iload hC dX12_layFar_115 0 rfl ?_
        obtain ⟨g_44, hf⟩ := ga_e hf
        refine go_iald hC (b_53 _) g_44 dX12_layFar_117 ?_
        refine go_aload_n hC dX12_layFar_118 rfl 2 rfl ?_
        refine go_iload_n hC dX12_layFar_119 rfl 4 rfl ?_
        obtain ⟨r_45, hc, hf⟩ := bd_e1 hf
        refine go_callV hC (c_X12_costOf x2 h r_45 hc) gX12_layFar_X12_costOf rfl ⟨rfl, rfl⟩ 1 e_X12_costOf ⟨Nat.le_of_ble_eq_true rfl, Nat.le_of_ble_eq_true rfl⟩ (b_43 _) rfl rfl (st := [.int (h.1 53 x5_42.toNatClampNeg), .int (h.1 53 x4_40.toNatClampNeg), .int x4_40, .ref 53]) (st1 := [.int r_45, .int (h.1 53 x5_42.toNatClampNeg), .int (h.1 53 x4_40.toNatClampNeg), .int x4_40, .ref 53]) rfl rfl (Nat.le_of_ble_eq_true rfl) ⟨Nat.zero_le _, Nat.zero_le _⟩ dX12_layFar_120 ?_
        refine go_iadd hC dX12_layFar_123 ?_
        obtain ⟨r_46, hc, hf⟩ := bd_e1 hf
        refine go_callS hC (c_X12_lesser (h.1 53 x4_40.toNatClampNeg) ((h.1 53 x5_42.toNatClampNeg) + r_45) h r_46 hc) gX12_layFar_X12_lesser rfl ⟨rfl, rfl⟩ 2 e_X12_lesser ⟨Nat.le_of_ble_eq_true rfl, Nat.le_of_ble_eq_true rfl⟩ rfl (st := [.int x4_40, .ref 53]) (st1 := [.int r_46, .int x4_40, .ref 53]) rfl rfl (Nat.le_of_ble_eq_true rfl) ⟨Nat.zero_le _, Nat.zero_le _⟩ dX12_layFar_124 ?_
        obtain ⟨g_47, hf⟩ := ga_e hf
        obtain ⟨h_48, eh_48, hf⟩ := lt_e hf
        refine go_iast hC (b_53 _) g_47 dX12_layFar_127 ?_
        refine go_toph eh_48 ?_
        refine go_aload_n hC dX12_layFar_128 rfl 2 rfl ?_
        refine go_getr hC (j := 18) (idx := 38) (nm := "far") (ds := "[I") (b_43 _) rfl rfl hn12 (Nat.le_of_ble_eq_true rfl) rfl rfl (List.mem_cons_of_mem _ (List.mem_append_left _ (List.mem_of_getElem? (i := 0) rfl))) (Or.inl rfl) dX12_layFar_129 ?_
        refine go_iload hC dX12_layFar_132 0 rfl ?_
        refine go_aload_n hC dX12_layFar_134 rfl 2 rfl ?_
        refine go_getr hC (j := 18) (idx := 38) (nm := "far") (ds := "[I") (b_43 _) rfl rfl hn12 (Nat.le_of_ble_eq_true rfl) rfl rfl (List.mem_cons_of_mem _ (List.mem_append_left _ (List.mem_of_getElem? (i := 0) rfl))) (Or.inl rfl) dX12_layFar_135 ?_
        refine go_iload hC dX12_layFar_138 0 rfl ?_
        obtain ⟨g_49, hf⟩ := ga_e hf
        refine go_iald hC (b_53 _) g_49 dX12_layFar_140 ?_
        refine go_aload_n hC dX12_layFar_141 rfl 2 rfl ?_
        refine go_getr hC (j := 18) (idx := 38) (nm := "far") (ds := "[I") (b_43 _) rfl rfl hn12 (Nat.le_of_ble_eq_true rfl) rfl rfl (List.mem_cons_of_mem _ (List.mem_append_left _ (List.mem_of_getElem? (i := 0) rfl))) (Or.inl rfl) dX12_layFar_142 ?_
        refine go_iload hC dX12_layFar_145 1 rfl ?_
        obtain ⟨g_50, hf⟩ := ga_e hf
        refine go_iald hC (b_53 _) g_50 dX12_layFar_147 ?_
        refine go_aload_n hC dX12_layFar_148 rfl 2 rfl ?_
        refine go_iload_n hC dX12_layFar_149 rfl 4 rfl ?_
        obtain ⟨r_51, hc, hf⟩ := bd_e1 hf
        refine go_callV hC (c_X12_costOf x2 h_48 r_51 hc) gX12_layFar_X12_costOf rfl ⟨rfl, rfl⟩ 1 e_X12_costOf ⟨Nat.le_of_ble_eq_true rfl, Nat.le_of_ble_eq_true rfl⟩ (b_43 _) rfl rfl (st := [.int (h_48.1 53 x4_40.toNatClampNeg), .int (h_48.1 53 x5_42.toNatClampNeg), .int x5_42, .ref 53]) (st1 := [.int r_51, .int (h_48.1 53 x4_40.toNatClampNeg), .int (h_48.1 53 x5_42.toNatClampNeg), .int x5_42, .ref 53]) rfl rfl (Nat.le_of_ble_eq_true rfl) ⟨Nat.zero_le _, Nat.zero_le _⟩ dX12_layFar_150 ?_
        refine go_iadd hC dX12_layFar_153 ?_
        obtain ⟨r_52, hc, hf⟩ := bd_e1 hf
        refine go_callS hC (c_X12_lesser (h_48.1 53 x5_42.toNatClampNeg) ((h_48.1 53 x4_40.toNatClampNeg) + r_51) h_48 r_52 hc) gX12_layFar_X12_lesser rfl ⟨rfl, rfl⟩ 2 e_X12_lesser ⟨Nat.le_of_ble_eq_true rfl, Nat.le_of_ble_eq_true rfl⟩ rfl (st := [.int x5_42, .ref 53]) (st1 := [.int r_52, .int x5_42, .ref 53]) rfl rfl (Nat.le_of_ble_eq_true rfl) ⟨Nat.zero_le _, Nat.zero_le _⟩ dX12_layFar_154 ?_
        obtain ⟨g_53, hf⟩ := ga_e hf
        obtain ⟨h_54, eh_54, hf⟩ := lt_e hf
        refine go_iast hC (b_53 _) g_53 dX12_layFar_157 ?_
        refine go_toph eh_54 ?_
        obtain ⟨x3_55, ex3_55, hf⟩ := lt_e hf
        refine go_iinc hC dX12_layFar_158 5 rfl k1_1 ex3_55 (Nat.le_of_ble_eq_true rfl) rfl ?_
        refine go_goto hC dX12_layFar_161 (tgt := 55) (by decide) ?_
        obtain rfl := so_1 hf
        refine go_sub [3, 4, 5, 0] rfl ?_
        exact ih x3_55 h_54 _ (lp_c hy) hk
set_option maxRecDepth 100000 in
set_option maxHeartbeats 4000000 in
theorem lw_X12_layFar_45 {C : GC} (hC : Cx C cX12_layFar 6 wsX12_layFar RX12 none (rm_d 1)) (x1 : Int32) : ∀ (n9 : Nat) (x2 : Int32) (h : PH) (y : Int32 × PH), lp_f (fun s => lb_X12_layFar_45 x1 s.1 s.2) n9 (x2, h) = some y → ∀ (hk : Go l0_B C 0 0 170 [(0, .ref 43), (1, .int x1)] [] y.2), Go l0_B C 0 0 45 [(0, .ref 43), (1, .int x1), (2, .int x2)] [] h := by
  have hn12 : ∀ w ∈ wsX120, w ∈ wsX12_layFar := (fun _ hw => (List.mem_cons_of_mem _ (List.mem_append_right _ hw)))
  intro n9
  induction n9 with
  | zero =>
    intro x2 h y hlp
    cases hlp
  | succ n9 ih =>
    intro x2 h y hlp hk
    obtain ⟨k9, z, hk9, hf, hy⟩ := lp_e hlp
    cases hk9
    replace hf : lb_X12_layFar_45 x1 x2 h = some z := hf
    unfold lb_X12_layFar_45 at hf
    refine go_iload_n hC dX12_layFar_45 rfl 2 rfl ?_
    refine go_aload_n hC dX12_layFar_46 rfl 0 rfl ?_
    refine go_geti hC (j := 3) (idx := 120) (nm := "runs") (ds := "I") (b_43 _) rfl rfl hn12 (Nat.le_of_ble_eq_true rfl) rfl rfl (List.mem_cons_of_mem _ (List.mem_append_left _ (List.mem_of_getElem? (i := 3) rfl))) (Or.inl rfl) dX12_layFar_47 ?_
    refine go_icmp_ge hC dX12_layFar_50 (tgt := 170) (by decide) (fun c_63 => ?_) (fun c_63 => ?_)
    · replace hf := if_t c_63 hf
      obtain rfl := so_1 hf
      obtain rfl := lp_x hy
      refine go_sub [0, 1] rfl ?_
      exact hk
    · replace hf := if_f c_63 hf
      refine go_iconst hC dX12_layFar_53 k1_0 ?_
      refine go_istore_n hC dX12_layFar_54 rfl (Nat.le_of_ble_eq_true rfl) rfl ?_
      obtain ⟨s_61, hl, hf⟩ := bd_e1 hf
      refine go_sub [1, 2, 3, 0] rfl ?_
      refine lw_X12_layFar_55 hC x1 x2 _ 0 h s_61 hl ?_
      obtain ⟨x2_62, ex2_62, hf⟩ := lt_e hf
      refine go_iinc hC dX12_layFar_164 2 rfl k1_1 ex2_62 (Nat.le_of_ble_eq_true rfl) rfl ?_
      refine go_goto hC dX12_layFar_167 (tgt := 45) (by decide) ?_
      obtain rfl := so_1 hf
      refine go_sub [1, 2, 0] rfl ?_
      exact ih x2_62 s_61.2 _ (lp_c hy) hk
set_option maxRecDepth 100000 in
set_option maxHeartbeats 4000000 in
theorem lw_X12_layFar_35 {C : GC} (hC : Cx C cX12_layFar 6 wsX12_layFar RX12 none (rm_d 1))  : ∀ (n9 : Nat) (x1 : Int32) (h : PH) (y : Int32 × PH), lp_f (fun s => lb_X12_layFar_35  s.1 s.2) n9 (x1, h) = some y → ∀ (hk : Go l0_B C 0 0 176 [] [] y.2), Go l0_B C 0 0 35 [(0, .ref 43), (1, .int x1)] [] h := by
  have hn12 : ∀ w ∈ wsX120, w ∈ wsX12_layFar := (fun _ hw => (List.mem_cons_of_mem _ (List.mem_append_right _ hw)))
  intro n9
  induction n9 with
  | zero =>
    intro x1 h y hlp
    cases hlp
  | succ n9 ih =>
    intro x1 h y hlp hk
    obtain ⟨k9, z, hk9, hf, hy⟩ := lp_e hlp
    cases hk9
    replace hf : lb_X12_layFar_35  x1 h = some z := hf
    unfold lb_X12_layFar_35 at hf
    refine go_iload_n hC dX12_layFar_35 rfl 1 rfl ?_
    refine go_aload_n hC dX12_layFar_36 rfl 0 rfl ?_
    refine go_geti hC (j := 1) (idx := 117) (nm := "places") (ds := "I") (b_43 _) rfl rfl hn12 (Nat.le_of_ble_eq_true rfl) rfl rfl (List.mem_cons_of_mem _ (List.mem_append_left _ (List.mem_of_getElem? (i := 2) rfl))) (Or.inl rfl) dX12_layFar_37 ?_
    refine go_icmp_ge hC dX12_layFar_40 (tgt := 176) (by decide) (fun c_69 => ?_) (fun c_69 => ?_)
    · replace hf := if_t c_69 hf
      obtain rfl := so_1 hf
      obtain rfl := lp_x hy
      refine go_sub [] rfl ?_
      exact hk
    · replace hf := if_f c_69 hf
      refine go_iconst hC dX12_layFar_43 k1_0 ?_
      refine go_istore_n hC dX12_layFar_44 rfl (Nat.le_of_ble_eq_true rfl) rfl ?_
      obtain ⟨s_67, hl, hf⟩ := bd_e1 hf
      refine go_sub [1, 2, 0] rfl ?_
      refine lw_X12_layFar_45 hC x1 _ 0 h s_67 hl ?_
      obtain ⟨x1_68, ex1_68, hf⟩ := lt_e hf
      refine go_iinc hC dX12_layFar_170 1 rfl k1_1 ex1_68 (Nat.le_of_ble_eq_true rfl) rfl ?_
      refine go_goto hC dX12_layFar_173 (tgt := 35) (by decide) ?_
      obtain rfl := so_1 hf
      refine go_sub [1, 0] rfl ?_
      exact ih x1_68 s_67.2 _ (lp_c hy) hk
theorem e_X12_layFar : yX12_layFar.cls = RX12 ∧ yX12_layFar.cls ≠ "java/lang/invoke/MethodHandle" ∧ yX12_layFar.cls ≠ "java/lang/invoke/VarHandle" ∧ (parseMethodDescriptor yX12_layFar.desc).map (fun d => d.parameters.length) = some 0 := by decide +kernel
set_option maxRecDepth 100000 in
set_option maxHeartbeats 4000000 in
theorem c_X12_layFar (h : PH) (h2 : PH) (hf : f_X12_layFar h = some ((), h2)) : Con yX12_layFar wsX12_layFar (rm_d 1) l0_B [.ref 43] h none h2 := by
  have hn12 : ∀ w ∈ wsX120, w ∈ wsX12_layFar := (fun _ hw => (List.mem_cons_of_mem _ (List.mem_append_right _ hw)))
  refine con_v (cc := cX12_layFar) (nL := 6) (by decide) rfl (Nat.le_of_ble_eq_true rfl) ?_
  intro C hC hret
  change Go l0_B C 0 0 0 [(0, .ref 43)] [] h
  unfold f_X12_layFar at hf
  refine go_iconst hC dX12_layFar_0 k1_0 ?_
  refine go_istore_n hC dX12_layFar_1 rfl (Nat.le_of_ble_eq_true rfl) rfl ?_
  obtain ⟨s_17, hl, hf⟩ := bd_e1 hf
  refine go_sub [1, 0] rfl ?_
  refine lw_X12_layFar_2 hC  _ 0 h s_17 hl ?_
  refine go_iconst hC dX12_layFar_33 k1_1 ?_
  refine go_istore_n hC dX12_layFar_34 rfl (Nat.le_of_ble_eq_true rfl) rfl ?_
  obtain ⟨s_70, hl, hf⟩ := bd_e1 hf
  refine go_sub [1, 0] rfl ?_
  refine lw_X12_layFar_35 hC  _ 1 s_17.2 s_70 hl ?_
  obtain ⟨-, rfl⟩ := so_2 hf
  exact hret _ _ dX12_layFar_176
def lb_X12_house_101  (x6 : Int32) (h : PH) : Option ((Int32 × PH) ⊕ (Int32 × PH)) :=
  if (h.1 43 3) ≤ x6 then (
  some (.inr (x6, h)))
  else (
  ga_i x6 14 (
  ga_i x6 14 (
  lt_b (ph_i h 44 x6.toNatClampNeg (h.1 49 x6.toNatClampNeg)) fun h_28 =>
  ga_i x6 14 (
  ga_i x6 14 (
  lt_b (ph_i h_28 45 x6.toNatClampNeg (h_28.1 50 x6.toNatClampNeg)) fun h_31 =>
  ga_i x6 14 (
  ga_i x6 14 (
  lt_b (ph_i h_31 46 x6.toNatClampNeg (h_31.1 51 x6.toNatClampNeg)) fun h_34 =>
  ga_i x6 14 (
  ga_i x6 14 (
  lt_b (ph_i h_34 47 x6.toNatClampNeg (h_34.1 52 x6.toNatClampNeg)) fun h_37 =>
  ga_i x6 14 (
  lt_b (ph_i h_37 48 x6.toNatClampNeg 0) fun h_39 =>
  lt_b (x6 + 1) fun x6_40 =>
  some (.inl (x6_40, h_39))))))))))))
def f_X12_house (x1 : Int32) (x2 : Int32) (x3 : Int32) (x4 : Int32) (h : PH) : Option (Int32 × PH) :=
  bd_1 (f_X12_noSheet x1 h) fun r_1 =>
  if r_1 = 0 then (
  bd_1 (f_X12_isLane x2 h) fun r_2 =>
  if r_2 = 0 then (
  bd_2 (f_X12_refused (-2) h) fun r_54 h_55 =>
  some (r_54, h_55))
  else (
  bd_2 (f_X12_barred x1 x2 x3 x4.toInt64 h) fun r_3 h_4 =>
  if 0 ≤ r_3 then (
  bd_2 (f_X12_readsHouse ((100 * x1) + x3) x4 h_4) fun r_5 h_6 =>
  if r_5 = 0 then (
  bd_2 (f_X12_refused ((-100) - (h_6.1 43 9)) h_6) fun r_50 h_51 =>
  some (r_50, h_51))
  else (
  lt_b (ph_i h_6 43 1 (h_6.1 43 11)) fun h_7 =>
  lt_b (ph_i h_7 43 2 (h_7.1 43 12)) fun h_8 =>
  lt_b (ph_i h_8 43 3 (h_8.1 43 13)) fun h_9 =>
  bd_1 (lp_f (fun s => lb_X12_house_101  s.1 s.2) fu_l (0, h_9)) fun s_42 =>
  lt_b (ph_i s_42.2 43 19 0) fun h_43 =>
  lt_b (ph_i h_43 43 23 0) fun h_44 =>
  lt_b (ph_i h_44 43 37 0) fun h_45 =>
  bd_2 (f_X12_layFar h_45) fun r_46 h_47 =>
  bd_2 (f_X12_refused (h_47.1 43 3) h_47) fun r_48 h_49 =>
  some (r_48, h_49)))
  else (
  some (r_3, h_4))))
  else (
  bd_2 (f_X12_refused (-1) h) fun r_57 h_58 =>
  some (r_57, h_58))
set_option maxRecDepth 100000 in
set_option maxHeartbeats 4000000 in
theorem lw_X12_house_101 {C : GC} (hC : Cx C cX12_house 7 wsX12_house RX12 (some .int) (rm_d 4))  : ∀ (n9 : Nat) (x6 : Int32) (h : PH) (y : Int32 × PH), lp_f (fun s => lb_X12_house_101  s.1 s.2) n9 (x6, h) = some y → ∀ (hk : Go l0_B C 0 0 180 [(0, .ref 43)] [] y.2), Go l0_B C 0 0 101 [(0, .ref 43), (6, .int x6)] [] h := by
  have hn12 : ∀ w ∈ wsX120, w ∈ wsX12_house := (fun _ hw => (List.mem_cons_of_mem _ (List.mem_append_right _ hw)))
  intro n9
  induction n9 with
  | zero =>
    intro x6 h y hlp
    cases hlp
  | succ n9 ih =>
    intro x6 h y hlp hk
    obtain ⟨k9, z, hk9, hf, hy⟩ := lp_e hlp
    cases hk9
    replace hf : lb_X12_house_101  x6 h = some z := hf
    unfold lb_X12_house_101 at hf
    refine go_iload hC dX12_house_101 1 rfl ?_
    refine go_aload_n hC dX12_house_103 rfl 0 rfl ?_
    refine go_geti hC (j := 3) (idx := 120) (nm := "runs") (ds := "I") (b_43 _) rfl rfl hn12 (Nat.le_of_ble_eq_true rfl) rfl rfl (List.mem_cons_of_mem _ (List.mem_append_left _ (List.mem_append_left _ (List.mem_of_getElem? (i := 6) rfl)))) (Or.inl rfl) dX12_house_104 ?_
    refine go_icmp_ge hC dX12_house_107 (tgt := 180) (by decide) (fun c_41 => ?_) (fun c_41 => ?_)
    · replace hf := if_t c_41 hf
      obtain rfl := so_1 hf
      obtain rfl := lp_x hy
      refine go_sub [0] rfl ?_
      exact hk
    · replace hf := if_f c_41 hf
      refine go_aload_n hC dX12_house_110 rfl 0 rfl ?_
      refine go_getr hC (j := 4) (idx := 7) (nm := "runOne") (ds := "[I") (b_43 _) rfl rfl hn12 (Nat.le_of_ble_eq_true rfl) rfl rfl (List.mem_cons_of_mem _ (List.mem_append_left _ (List.mem_append_left _ (List.mem_of_getElem? (i := 7) rfl)))) (Or.inl rfl) dX12_house_111 ?_
      refine go_iload hC dX12_house_114 1 rfl ?_
      refine go_aload_n hC dX12_house_116 rfl 0 rfl ?_
      refine go_getr hC (j := 14) (idx := 26) (nm := "readOne") (ds := "[I") (b_43 _) rfl rfl hn12 (Nat.le_of_ble_eq_true rfl) rfl rfl (List.mem_cons_of_mem _ (List.mem_append_left _ (List.mem_append_left _ (List.mem_of_getElem? (i := 8) rfl)))) (Or.inl rfl) dX12_house_117 ?_
      refine go_iload hC dX12_house_120 1 rfl ?_
      obtain ⟨g_26, hf⟩ := ga_e hf
      refine go_iald hC (b_49 _) g_26 dX12_house_122 ?_
      obtain ⟨g_27, hf⟩ := ga_e hf
      obtain ⟨h_28, eh_28, hf⟩ := lt_e hf
      refine go_iast hC (b_44 _) g_27 dX12_house_123 ?_
      refine go_toph eh_28 ?_
      refine go_aload_n hC dX12_house_124 rfl 0 rfl ?_
      refine go_getr hC (j := 5) (idx := 13) (nm := "runTwo") (ds := "[I") (b_43 _) rfl rfl hn12 (Nat.le_of_ble_eq_true rfl) rfl rfl (List.mem_cons_of_mem _ (List.mem_append_left _ (List.mem_append_left _ (List.mem_of_getElem? (i := 9) rfl)))) (Or.inl rfl) dX12_house_125 ?_
      refine go_iload hC dX12_house_128 1 rfl ?_
      refine go_aload_n hC dX12_house_130 rfl 0 rfl ?_
      refine go_getr hC (j := 15) (idx := 29) (nm := "readTwo") (ds := "[I") (b_43 _) rfl rfl hn12 (Nat.le_of_ble_eq_true rfl) rfl rfl (List.mem_cons_of_mem _ (List.mem_append_left _ (List.mem_append_left _ (List.mem_of_getElem? (i := 10) rfl)))) (Or.inl rfl) dX12_house_131 ?_
      refine go_iload hC dX12_house_134 1 rfl ?_
      obtain ⟨g_29, hf⟩ := ga_e hf
      refine go_iald hC (b_50 _) g_29 dX12_house_136 ?_
      obtain ⟨g_30, hf⟩ := ga_e hf
      obtain ⟨h_31, eh_31, hf⟩ := lt_e hf
      refine go_iast hC (b_45 _) g_30 dX12_house_137 ?_
      refine go_toph eh_31 ?_
      refine go_aload_n hC dX12_house_138 rfl 0 rfl ?_
      refine go_getr hC (j := 6) (idx := 16) (nm := "runYards") (ds := "[I") (b_43 _) rfl rfl hn12 (Nat.le_of_ble_eq_true rfl) rfl rfl (List.mem_cons_of_mem _ (List.mem_append_left _ (List.mem_append_left _ (List.mem_of_getElem? (i := 11) rfl)))) (Or.inl rfl) dX12_house_139 ?_
      refine go_iload hC dX12_house_142 1 rfl ?_
      refine go_aload_n hC dX12_house_144 rfl 0 rfl ?_
      refine go_getr hC (j := 16) (idx := 32) (nm := "readYards") (ds := "[I") (b_43 _) rfl rfl hn12 (Nat.le_of_ble_eq_true rfl) rfl rfl (List.mem_cons_of_mem _ (List.mem_append_left _ (List.mem_append_left _ (List.mem_of_getElem? (i := 12) rfl)))) (Or.inl rfl) dX12_house_145 ?_
      refine go_iload hC dX12_house_148 1 rfl ?_
      obtain ⟨g_32, hf⟩ := ga_e hf
      refine go_iald hC (b_51 _) g_32 dX12_house_150 ?_
      obtain ⟨g_33, hf⟩ := ga_e hf
      obtain ⟨h_34, eh_34, hf⟩ := lt_e hf
      refine go_iast hC (b_46 _) g_33 dX12_house_151 ?_
      refine go_toph eh_34 ?_
      refine go_aload_n hC dX12_house_152 rfl 0 rfl ?_
      refine go_getr hC (j := 7) (idx := 19) (nm := "runDrilled") (ds := "[I") (b_43 _) rfl rfl hn12 (Nat.le_of_ble_eq_true rfl) rfl rfl (List.mem_cons_of_mem _ (List.mem_append_left _ (List.mem_append_left _ (List.mem_of_getElem? (i := 13) rfl)))) (Or.inl rfl) dX12_house_153 ?_
      refine go_iload hC dX12_house_156 1 rfl ?_
      refine go_aload_n hC dX12_house_158 rfl 0 rfl ?_
      refine go_getr hC (j := 17) (idx := 35) (nm := "readDrilled") (ds := "[I") (b_43 _) rfl rfl hn12 (Nat.le_of_ble_eq_true rfl) rfl rfl (List.mem_cons_of_mem _ (List.mem_append_left _ (List.mem_append_left _ (List.mem_of_getElem? (i := 14) rfl)))) (Or.inl rfl) dX12_house_159 ?_
      refine go_iload hC dX12_house_162 1 rfl ?_
      obtain ⟨g_35, hf⟩ := ga_e hf
      refine go_iald hC (b_52 _) g_35 dX12_house_164 ?_
      obtain ⟨g_36, hf⟩ := ga_e hf
      obtain ⟨h_37, eh_37, hf⟩ := lt_e hf
      refine go_iast hC (b_47 _) g_36 dX12_house_165 ?_
      refine go_toph eh_37 ?_
      refine go_aload_n hC dX12_house_166 rfl 0 rfl ?_
      refine go_getr hC (j := 8) (idx := 22) (nm := "isShut") (ds := "[Z") (b_43 _) rfl rfl hn12 (Nat.le_of_ble_eq_true rfl) rfl rfl (List.mem_cons_of_mem _ (List.mem_append_left _ (List.mem_append_left _ (List.mem_of_getElem? (i := 15) rfl)))) (Or.inl rfl) dX12_house_167 ?_
      refine go_iload hC dX12_house_170 1 rfl ?_
      refine go_iconst hC dX12_house_172 k1_0 ?_
      obtain ⟨g_38, hf⟩ := ga_e hf
      obtain ⟨h_39, eh_39, hf⟩ := lt_e hf
      refine go_zast hC (b_48 _) g_38 (Or.inl rfl) dX12_house_173 ?_
      refine go_toph eh_39 ?_
      obtain ⟨x6_40, ex6_40, hf⟩ := lt_e hf
      refine go_iinc hC dX12_house_174 1 rfl k1_1 ex6_40 (Nat.le_of_ble_eq_true rfl) rfl ?_
      refine go_goto hC dX12_house_177 (tgt := 101) (by decide) ?_
      obtain rfl := so_1 hf
      refine go_sub [1, 0] rfl ?_
      exact ih x6_40 h_39 _ (lp_c hy) hk
theorem e_X12_house : yX12_house.cls = RX12 ∧ yX12_house.cls ≠ "java/lang/invoke/MethodHandle" ∧ yX12_house.cls ≠ "java/lang/invoke/VarHandle" ∧ (parseMethodDescriptor yX12_house.desc).map (fun d => d.parameters.length) = some 4 := by decide +kernel
set_option maxRecDepth 100000 in
set_option maxHeartbeats 4000000 in
theorem c_X12_house (x1 : Int32) (x2 : Int32) (x3 : Int32) (x4 : Int32) (h : PH) (h2 : PH) (r : Int32) (hf : f_X12_house x1 x2 x3 x4 h = some (r, h2)) : Con yX12_house wsX12_house (rm_d 4) l0_B [.ref 43, .int x1, .int x2, .int x3, .int x4] h (some (.int r)) h2 := by
  have hn12 : ∀ w ∈ wsX120, w ∈ wsX12_house := (fun _ hw => (List.mem_cons_of_mem _ (List.mem_append_right _ hw)))
  refine con_i (ty := .int) (cc := cX12_house) (nL := 7) (by decide) rfl (Nat.le_of_ble_eq_true rfl) ?_
  intro C hC hret
  change Go l0_B C 0 0 0 [(0, .ref 43), (1, .int x1), (2, .int x2), (3, .int x3), (4, .int x4)] [] h
  unfold f_X12_house at hf
  refine go_iload_n hC dX12_house_0 rfl 1 rfl ?_
  obtain ⟨r_1, hc, hf⟩ := bd_e1 hf
  refine go_callS hC (c_X12_noSheet x1 h r_1 hc) gX12_house_X12_noSheet rfl ⟨rfl, rfl⟩ 1 e_X12_noSheet ⟨Nat.le_of_ble_eq_true rfl, Nat.le_of_ble_eq_true rfl⟩ rfl (st := []) (st1 := [.int r_1]) rfl rfl (Nat.le_of_ble_eq_true rfl) ⟨Nat.zero_le _, Nat.zero_le _⟩ dX12_house_1 ?_
  refine go_if_eq hC dX12_house_4 (tgt := 13) (by decide) (fun c_59 => ?_) (fun c_59 => ?_)
  · replace hf := if_t c_59 hf
    refine go_iload_n hC dX12_house_13 rfl 2 rfl ?_
    obtain ⟨r_2, hc, hf⟩ := bd_e1 hf
    refine go_callS hC (c_X12_isLane x2 h r_2 hc) gX12_house_X12_isLane rfl ⟨rfl, rfl⟩ 1 e_X12_isLane ⟨Nat.le_of_ble_eq_true rfl, Nat.le_of_ble_eq_true rfl⟩ rfl (st := []) (st1 := [.int r_2]) rfl rfl (Nat.le_of_ble_eq_true rfl) ⟨Nat.zero_le _, Nat.zero_le _⟩ dX12_house_14 ?_
    refine go_if_ne hC dX12_house_17 (tgt := 27) (by decide) (fun c_56 => ?_) (fun c_56 => ?_)
    · replace hf := if_f c_56 hf
      refine go_aload_n hC dX12_house_27 rfl 0 rfl ?_
      refine go_iload_n hC dX12_house_28 rfl 1 rfl ?_
      refine go_iload_n hC dX12_house_29 rfl 2 rfl ?_
      refine go_iload_n hC dX12_house_30 rfl 3 rfl ?_
      refine go_iload hC dX12_house_31 4 rfl ?_
      refine go_i2l hC dX12_house_33 ?_
      obtain ⟨r_3, h_4, hc, hf⟩ := bd_e2 hf
      refine go_callV hC (c_X12_barred x1 x2 x3 x4.toInt64 h h_4 r_3 hc) gX12_house_X12_barred rfl ⟨rfl, rfl⟩ 4 e_X12_barred ⟨Nat.le_of_ble_eq_true rfl, Nat.le_of_ble_eq_true rfl⟩ (b_43 _) rfl rfl (st := []) (st1 := [.int r_3]) rfl rfl (Nat.le_of_ble_eq_true rfl) ⟨Nat.zero_le _, Nat.zero_le _⟩ dX12_house_34 ?_
      refine go_istore hC dX12_house_37 (Nat.le_of_ble_eq_true rfl) rfl ?_
      refine go_iload hC dX12_house_39 0 rfl ?_
      refine go_if_ge hC dX12_house_41 (tgt := 47) (by decide) (fun c_53 => ?_) (fun c_53 => ?_)
      · replace hf := if_t c_53 hf
        refine go_aload_n hC dX12_house_47 rfl 1 rfl ?_
        refine go_bipush hC dX12_house_48 k8_100 ?_
        refine go_iload_n hC dX12_house_50 rfl 2 rfl ?_
        refine go_imul hC dX12_house_51 ?_
        refine go_iload_n hC dX12_house_52 rfl 4 rfl ?_
        refine go_iadd hC dX12_house_53 ?_
        refine go_iload hC dX12_house_54 5 rfl ?_
        obtain ⟨r_5, h_6, hc, hf⟩ := bd_e2 hf
        refine go_callV hC (c_X12_readsHouse ((100 * x1) + x3) x4 h_4 h_6 r_5 hc) gX12_house_X12_readsHouse rfl ⟨rfl, rfl⟩ 2 e_X12_readsHouse ⟨Nat.le_of_ble_eq_true rfl, Nat.le_of_ble_eq_true rfl⟩ (b_43 _) rfl rfl (st := []) (st1 := [.int r_5]) rfl rfl (Nat.le_of_ble_eq_true rfl) ⟨Nat.zero_le _, Nat.zero_le _⟩ dX12_house_56 ?_
        refine go_if_ne hC dX12_house_59 (tgt := 74) (by decide) (fun c_52 => ?_) (fun c_52 => ?_)
        · replace hf := if_f c_52 hf
          refine go_aload_n hC dX12_house_74 rfl 1 rfl ?_
          refine go_aload_n hC dX12_house_75 rfl 1 rfl ?_
          refine go_geti hC (j := 11) (idx := 136) (nm := "readPlaces") (ds := "I") (b_43 _) rfl rfl hn12 (Nat.le_of_ble_eq_true rfl) rfl rfl (List.mem_cons_of_mem _ (List.mem_append_left _ (List.mem_append_left _ (List.mem_of_getElem? (i := 1) rfl)))) (Or.inl rfl) dX12_house_76 ?_
          obtain ⟨h_7, eh_7, hf⟩ := lt_e hf
          refine go_puti hC tyX12 (j := 1) (idx := 117) (nm := "places") (ds := "I") (b_43 _) rfl rfl hn12 tyX12_ok nmX12 (Nat.le_of_ble_eq_true rfl) rfl rfl (List.mem_cons_of_mem _ (List.mem_append_left _ (List.mem_append_left _ (List.mem_of_getElem? (i := 2) rfl)))) (Or.inl rfl) rfl (tyX12_ok _ (Nat.le_of_ble_eq_true rfl)) dX12_house_79 ?_
          refine go_toph eh_7 ?_
          refine go_aload_n hC dX12_house_82 rfl 1 rfl ?_
          refine go_aload_n hC dX12_house_83 rfl 1 rfl ?_
          refine go_geti hC (j := 12) (idx := 143) (nm := "readBox") (ds := "I") (b_43 _) rfl rfl hn12 (Nat.le_of_ble_eq_true rfl) rfl rfl (List.mem_cons_of_mem _ (List.mem_append_left _ (List.mem_append_left _ (List.mem_of_getElem? (i := 3) rfl)))) (Or.inl rfl) dX12_house_84 ?_
          obtain ⟨h_8, eh_8, hf⟩ := lt_e hf
          refine go_puti hC tyX12 (j := 2) (idx := 167) (nm := "boxAt") (ds := "I") (b_43 _) rfl rfl hn12 tyX12_ok nmX12 (Nat.le_of_ble_eq_true rfl) rfl rfl (List.mem_cons_of_mem _ (List.mem_append_left _ (List.mem_append_left _ (List.mem_of_getElem? (i := 4) rfl)))) (Or.inl rfl) rfl (tyX12_ok _ (Nat.le_of_ble_eq_true rfl)) dX12_house_87 ?_
          refine go_toph eh_8 ?_
          refine go_aload_n hC dX12_house_90 rfl 1 rfl ?_
          refine go_aload_n hC dX12_house_91 rfl 1 rfl ?_
          refine go_geti hC (j := 13) (idx := 129) (nm := "readRuns") (ds := "I") (b_43 _) rfl rfl hn12 (Nat.le_of_ble_eq_true rfl) rfl rfl (List.mem_cons_of_mem _ (List.mem_append_left _ (List.mem_append_left _ (List.mem_of_getElem? (i := 5) rfl)))) (Or.inl rfl) dX12_house_92 ?_
          obtain ⟨h_9, eh_9, hf⟩ := lt_e hf
          refine go_puti hC tyX12 (j := 3) (idx := 120) (nm := "runs") (ds := "I") (b_43 _) rfl rfl hn12 tyX12_ok nmX12 (Nat.le_of_ble_eq_true rfl) rfl rfl (List.mem_cons_of_mem _ (List.mem_append_left _ (List.mem_append_left _ (List.mem_of_getElem? (i := 6) rfl)))) (Or.inl rfl) rfl (tyX12_ok _ (Nat.le_of_ble_eq_true rfl)) dX12_house_95 ?_
          refine go_toph eh_9 ?_
          refine go_iconst hC dX12_house_98 k1_0 ?_
          refine go_istore hC dX12_house_99 (Nat.le_of_ble_eq_true rfl) rfl ?_
          obtain ⟨s_42, hl, hf⟩ := bd_e1 hf
          refine go_sub [2, 0] rfl ?_
          refine lw_X12_house_101 hC  _ 0 h_9 s_42 hl ?_
          refine go_aload_n hC dX12_house_180 rfl 0 rfl ?_
          refine go_iconst hC dX12_house_181 k1_0 ?_
          obtain ⟨h_43, eh_43, hf⟩ := lt_e hf
          refine go_puti hC tyX12 (j := 19) (idx := 170) (nm := "points") (ds := "I") (b_43 _) rfl rfl hn12 tyX12_ok nmX12 (Nat.le_of_ble_eq_true rfl) rfl rfl (List.mem_cons_of_mem _ (List.mem_append_left _ (List.mem_append_left _ (List.mem_of_getElem? (i := 16) rfl)))) (Or.inl rfl) rfl (tyX12_ok _ (Nat.le_of_ble_eq_true rfl)) dX12_house_182 ?_
          refine go_toph eh_43 ?_
          refine go_aload_n hC dX12_house_185 rfl 0 rfl ?_
          refine go_iconst hC dX12_house_186 k1_0 ?_
          obtain ⟨h_44, eh_44, hf⟩ := lt_e hf
          refine go_puti hC tyX12 (j := 23) (idx := 173) (nm := "ways") (ds := "I") (b_43 _) rfl rfl hn12 tyX12_ok nmX12 (Nat.le_of_ble_eq_true rfl) rfl rfl (List.mem_cons_of_mem _ (List.mem_append_left _ (List.mem_append_left _ (List.mem_of_getElem? (i := 17) rfl)))) (Or.inl rfl) rfl (tyX12_ok _ (Nat.le_of_ble_eq_true rfl)) dX12_house_187 ?_
          refine go_toph eh_44 ?_
          refine go_aload_n hC dX12_house_190 rfl 0 rfl ?_
          refine go_iconst hC dX12_house_191 k1_0 ?_
          obtain ⟨h_45, eh_45, hf⟩ := lt_e hf
          refine go_puti hC tyX12 (j := 37) (idx := 176) (nm := "readings") (ds := "I") (b_43 _) rfl rfl hn12 tyX12_ok nmX12 (Nat.le_of_ble_eq_true rfl) rfl rfl (List.mem_cons_of_mem _ (List.mem_append_left _ (List.mem_append_left _ (List.mem_of_getElem? (i := 18) rfl)))) (Or.inl rfl) rfl (tyX12_ok _ (Nat.le_of_ble_eq_true rfl)) dX12_house_192 ?_
          refine go_toph eh_45 ?_
          refine go_aload_n hC dX12_house_195 rfl 0 rfl ?_
          obtain ⟨r_46, h_47, hc, hf⟩ := bd_e2 hf
          refine go_callV hC (c_X12_layFar h_45 h_47 hc) gX12_house_X12_layFar rfl ⟨rfl, rfl⟩ 0 e_X12_layFar ⟨Nat.le_of_ble_eq_true rfl, Nat.le_of_ble_eq_true rfl⟩ (b_43 _) rfl rfl (st := []) (st1 := []) rfl rfl (Nat.le_of_ble_eq_true rfl) ⟨Nat.zero_le _, Nat.zero_le _⟩ dX12_house_196 ?_
          refine go_aload_n hC dX12_house_199 rfl 0 rfl ?_
          refine go_aload_n hC dX12_house_200 rfl 0 rfl ?_
          refine go_geti hC (j := 3) (idx := 120) (nm := "runs") (ds := "I") (b_43 _) rfl rfl hn12 (Nat.le_of_ble_eq_true rfl) rfl rfl (List.mem_cons_of_mem _ (List.mem_append_left _ (List.mem_append_left _ (List.mem_of_getElem? (i := 6) rfl)))) (Or.inl rfl) dX12_house_201 ?_
          obtain ⟨r_48, h_49, hc, hf⟩ := bd_e2 hf
          refine go_callV hC (c_X12_refused (h_47.1 43 3) h_47 h_49 r_48 hc) gX12_house_X12_refused rfl ⟨rfl, rfl⟩ 1 e_X12_refused ⟨Nat.le_of_ble_eq_true rfl, Nat.le_of_ble_eq_true rfl⟩ (b_43 _) rfl rfl (st := []) (st1 := [.int r_48]) rfl rfl (Nat.le_of_ble_eq_true rfl) ⟨Nat.zero_le _, Nat.zero_le _⟩ dX12_house_204 ?_
          obtain ⟨rfl, rfl⟩ := so_2 hf
          exact hret _ _ rfl dX12_house_207
        · replace hf := if_t c_52 hf
          refine go_aload_n hC dX12_house_62 rfl 1 rfl ?_
          refine go_bipush hC dX12_house_63 k8_m100 ?_
          refine go_aload_n hC dX12_house_65 rfl 1 rfl ?_
          refine go_geti hC (j := 9) (idx := 123) (nm := "readAt") (ds := "I") (b_43 _) rfl rfl hn12 (Nat.le_of_ble_eq_true rfl) rfl rfl (List.mem_cons_of_mem _ (List.mem_append_left _ (List.mem_append_left _ (List.mem_of_getElem? (i := 0) rfl)))) (Or.inl rfl) dX12_house_66 ?_
          refine go_isub hC dX12_house_69 ?_
          obtain ⟨r_50, h_51, hc, hf⟩ := bd_e2 hf
          refine go_callV hC (c_X12_refused ((-100) - (h_6.1 43 9)) h_6 h_51 r_50 hc) gX12_house_X12_refused rfl ⟨rfl, rfl⟩ 1 e_X12_refused ⟨Nat.le_of_ble_eq_true rfl, Nat.le_of_ble_eq_true rfl⟩ (b_43 _) rfl rfl (st := []) (st1 := [.int r_50]) rfl rfl (Nat.le_of_ble_eq_true rfl) ⟨Nat.zero_le _, Nat.zero_le _⟩ dX12_house_70 ?_
          obtain ⟨rfl, rfl⟩ := so_2 hf
          exact hret _ _ rfl dX12_house_73
      · replace hf := if_f c_53 hf
        refine go_iload hC dX12_house_44 0 rfl ?_
        obtain ⟨rfl, rfl⟩ := so_2 hf
        exact hret _ _ rfl dX12_house_46
    · replace hf := if_t c_56 hf
      refine go_aload_n hC dX12_house_20 rfl 0 rfl ?_
      refine go_bipush hC dX12_house_21 k8_m2 ?_
      obtain ⟨r_54, h_55, hc, hf⟩ := bd_e2 hf
      refine go_callV hC (c_X12_refused (-2) h h_55 r_54 hc) gX12_house_X12_refused rfl ⟨rfl, rfl⟩ 1 e_X12_refused ⟨Nat.le_of_ble_eq_true rfl, Nat.le_of_ble_eq_true rfl⟩ (b_43 _) rfl rfl (st := []) (st1 := [.int r_54]) rfl rfl (Nat.le_of_ble_eq_true rfl) ⟨Nat.zero_le _, Nat.zero_le _⟩ dX12_house_23 ?_
      obtain ⟨rfl, rfl⟩ := so_2 hf
      exact hret _ _ rfl dX12_house_26
  · replace hf := if_f c_59 hf
    refine go_aload_n hC dX12_house_7 rfl 0 rfl ?_
    refine go_iconst hC dX12_house_8 k1_m1 ?_
    obtain ⟨r_57, h_58, hc, hf⟩ := bd_e2 hf
    refine go_callV hC (c_X12_refused (-1) h h_58 r_57 hc) gX12_house_X12_refused rfl ⟨rfl, rfl⟩ 1 e_X12_refused ⟨Nat.le_of_ble_eq_true rfl, Nat.le_of_ble_eq_true rfl⟩ (b_43 _) rfl rfl (st := []) (st1 := [.int r_57]) rfl rfl (Nat.le_of_ble_eq_true rfl) ⟨Nat.zero_le _, Nat.zero_le _⟩ dX12_house_9 ?_
    obtain ⟨rfl, rfl⟩ := so_2 hf
    exact hret _ _ rfl dX12_house_12
def f_X12_ofRun (x1 : Int32) (x2 : Int32) (h : PH) : Option (Int32) :=
  bd_1 (f_X12_noRun x1 h) fun r_1 =>
  if r_1 = 0 then (
  if x2 = 0 then (
  ga_i x1 14 (
  some (h.1 44 x1.toNatClampNeg)))
  else (
  if x2 = 1 then (
  ga_i x1 14 (
  some (h.1 45 x1.toNatClampNeg)))
  else (
  if x2 = 2 then (
  ga_i x1 14 (
  some (h.1 46 x1.toNatClampNeg)))
  else (
  if x2 = 3 then (
  ga_i x1 14 (
  some (h.1 47 x1.toNatClampNeg)))
  else (
  if x2 = 4 then (
  ga_i x1 14 (
  if (h.1 48 x1.toNatClampNeg) = 0 then (
  some 0)
  else (
  some 1)))
  else (
  some (-2)))))))
  else (
  some (-1))
theorem e_X12_ofRun : yX12_ofRun.cls = RX12 ∧ yX12_ofRun.cls ≠ "java/lang/invoke/MethodHandle" ∧ yX12_ofRun.cls ≠ "java/lang/invoke/VarHandle" ∧ (parseMethodDescriptor yX12_ofRun.desc).map (fun d => d.parameters.length) = some 2 := by decide +kernel
set_option maxRecDepth 100000 in
set_option maxHeartbeats 4000000 in
theorem c_X12_ofRun (x1 : Int32) (x2 : Int32) (h : PH) (r : Int32) (hf : f_X12_ofRun x1 x2 h = some r) : Con yX12_ofRun wsX12_ofRun (rm_d 2) l0_B [.ref 43, .int x1, .int x2] h (some (.int r)) h := by
  have hn12 : ∀ w ∈ wsX120, w ∈ wsX12_ofRun := (fun _ hw => (List.mem_cons_of_mem _ (List.mem_append_right _ hw)))
  refine con_i (ty := .int) (cc := cX12_ofRun) (nL := 3) (by decide) rfl (Nat.le_of_ble_eq_true rfl) ?_
  intro C hC hret
  change Go l0_B C 0 0 0 [(0, .ref 43), (1, .int x1), (2, .int x2)] [] h
  unfold f_X12_ofRun at hf
  refine go_aload_n hC dX12_ofRun_0 rfl 0 rfl ?_
  refine go_iload_n hC dX12_ofRun_1 rfl 1 rfl ?_
  obtain ⟨r_1, hc, hf⟩ := bd_e1 hf
  refine go_callV hC (c_X12_noRun x1 h r_1 hc) gX12_ofRun_X12_noRun rfl ⟨rfl, rfl⟩ 1 e_X12_noRun ⟨Nat.le_of_ble_eq_true rfl, Nat.le_of_ble_eq_true rfl⟩ (b_43 _) rfl rfl (st := []) (st1 := [.int r_1]) rfl rfl (Nat.le_of_ble_eq_true rfl) ⟨Nat.zero_le _, Nat.zero_le _⟩ dX12_ofRun_2 ?_
  refine go_if_eq hC dX12_ofRun_5 (tgt := 10) (by decide) (fun c_13 => ?_) (fun c_13 => ?_)
  · replace hf := if_t c_13 hf
    refine go_iload_n hC dX12_ofRun_10 rfl 2 rfl ?_
    by_cases c_2 : x2 = 0
    · replace hf := if_t c_2 hf
      refine go_tab hC dX12_ofRun_11 c_2 (off := 33) (by decide) (by decide) (by decide) (tgt := 44) (by decide) ?_
      refine go_aload_n hC dX12_ofRun_44 rfl 0 rfl ?_
      refine go_getr hC (j := 4) (idx := 7) (nm := "runOne") (ds := "[I") (b_43 _) rfl rfl hn12 (Nat.le_of_ble_eq_true rfl) rfl rfl (List.mem_cons_of_mem _ (List.mem_append_left _ (List.mem_of_getElem? (i := 0) rfl))) (Or.inl rfl) dX12_ofRun_45 ?_
      refine go_iload_n hC dX12_ofRun_48 rfl 1 rfl ?_
      obtain ⟨g_7, hf⟩ := ga_e hf
      refine go_iald hC (b_44 _) g_7 dX12_ofRun_49 ?_
      obtain rfl := so_1 hf
      exact hret _ _ rfl dX12_ofRun_50
    · replace hf := if_f c_2 hf
      by_cases c_3 : x2 = 1
      · replace hf := if_t c_3 hf
        refine go_tab hC dX12_ofRun_11 c_3 (off := 40) (by decide) (by decide) (by decide) (tgt := 51) (by decide) ?_
        refine go_aload_n hC dX12_ofRun_51 rfl 0 rfl ?_
        refine go_getr hC (j := 5) (idx := 13) (nm := "runTwo") (ds := "[I") (b_43 _) rfl rfl hn12 (Nat.le_of_ble_eq_true rfl) rfl rfl (List.mem_cons_of_mem _ (List.mem_append_left _ (List.mem_of_getElem? (i := 1) rfl))) (Or.inl rfl) dX12_ofRun_52 ?_
        refine go_iload_n hC dX12_ofRun_55 rfl 1 rfl ?_
        obtain ⟨g_8, hf⟩ := ga_e hf
        refine go_iald hC (b_45 _) g_8 dX12_ofRun_56 ?_
        obtain rfl := so_1 hf
        exact hret _ _ rfl dX12_ofRun_57
      · replace hf := if_f c_3 hf
        by_cases c_4 : x2 = 2
        · replace hf := if_t c_4 hf
          refine go_tab hC dX12_ofRun_11 c_4 (off := 47) (by decide) (by decide) (by decide) (tgt := 58) (by decide) ?_
          refine go_aload_n hC dX12_ofRun_58 rfl 0 rfl ?_
          refine go_getr hC (j := 6) (idx := 16) (nm := "runYards") (ds := "[I") (b_43 _) rfl rfl hn12 (Nat.le_of_ble_eq_true rfl) rfl rfl (List.mem_cons_of_mem _ (List.mem_append_left _ (List.mem_of_getElem? (i := 2) rfl))) (Or.inl rfl) dX12_ofRun_59 ?_
          refine go_iload_n hC dX12_ofRun_62 rfl 1 rfl ?_
          obtain ⟨g_9, hf⟩ := ga_e hf
          refine go_iald hC (b_46 _) g_9 dX12_ofRun_63 ?_
          obtain rfl := so_1 hf
          exact hret _ _ rfl dX12_ofRun_64
        · replace hf := if_f c_4 hf
          by_cases c_5 : x2 = 3
          · replace hf := if_t c_5 hf
            refine go_tab hC dX12_ofRun_11 c_5 (off := 54) (by decide) (by decide) (by decide) (tgt := 65) (by decide) ?_
            refine go_aload_n hC dX12_ofRun_65 rfl 0 rfl ?_
            refine go_getr hC (j := 7) (idx := 19) (nm := "runDrilled") (ds := "[I") (b_43 _) rfl rfl hn12 (Nat.le_of_ble_eq_true rfl) rfl rfl (List.mem_cons_of_mem _ (List.mem_append_left _ (List.mem_of_getElem? (i := 3) rfl))) (Or.inl rfl) dX12_ofRun_66 ?_
            refine go_iload_n hC dX12_ofRun_69 rfl 1 rfl ?_
            obtain ⟨g_10, hf⟩ := ga_e hf
            refine go_iald hC (b_47 _) g_10 dX12_ofRun_70 ?_
            obtain rfl := so_1 hf
            exact hret _ _ rfl dX12_ofRun_71
          · replace hf := if_f c_5 hf
            by_cases c_6 : x2 = 4
            · replace hf := if_t c_6 hf
              refine go_tab hC dX12_ofRun_11 c_6 (off := 61) (by decide) (by decide) (by decide) (tgt := 72) (by decide) ?_
              refine go_aload_n hC dX12_ofRun_72 rfl 0 rfl ?_
              refine go_getr hC (j := 8) (idx := 22) (nm := "isShut") (ds := "[Z") (b_43 _) rfl rfl hn12 (Nat.le_of_ble_eq_true rfl) rfl rfl (List.mem_cons_of_mem _ (List.mem_append_left _ (List.mem_of_getElem? (i := 4) rfl))) (Or.inl rfl) dX12_ofRun_73 ?_
              refine go_iload_n hC dX12_ofRun_76 rfl 1 rfl ?_
              obtain ⟨g_11, hf⟩ := ga_e hf
              refine go_zald hC (b_48 _) g_11 dX12_ofRun_77 ?_
              refine go_if_eq hC dX12_ofRun_78 (tgt := 85) (by decide) (fun c_12 => ?_) (fun c_12 => ?_)
              · replace hf := if_t c_12 hf
                refine go_iconst hC dX12_ofRun_85 k1_0 ?_
                obtain rfl := so_1 hf
                exact hret _ _ rfl dX12_ofRun_86
              · replace hf := if_f c_12 hf
                refine go_iconst hC dX12_ofRun_81 k1_1 ?_
                refine go_goto hC dX12_ofRun_82 (tgt := 86) (by decide) ?_
                obtain rfl := so_1 hf
                exact hret _ _ rfl dX12_ofRun_86
            · replace hf := if_f c_6 hf
              refine go_tabOut hC dX12_ofRun_11 (tb_5 c_2 c_3 c_4 c_5 c_6) (tgt := 87) (by decide) ?_
              refine go_bipush hC dX12_ofRun_87 k8_m2 ?_
              obtain rfl := so_1 hf
              exact hret _ _ rfl dX12_ofRun_89
  · replace hf := if_f c_13 hf
    refine go_iconst hC dX12_ofRun_8 k1_m1 ?_
    obtain rfl := so_1 hf
    exact hret _ _ rfl dX12_ofRun_9
def f_X12_shut (x1 : Int32) (x2 : Int32) (h : PH) : Option (Int32 × PH) :=
  bd_1 (f_X12_noRun x1 h) fun r_1 =>
  if r_1 = 0 then (
  ga_i x1 14 (
  if (h.1 48 x1.toNatClampNeg) = x2 then (
  ga_i x1 14 (
  gb_i x2 (
  lt_b (ph_i h 48 x1.toNatClampNeg x2) fun h_9 =>
  bd_2 (f_X12_layFar h_9) fun r_11 h_12 =>
  some (0, h_12))))
  else (
  ga_i x1 14 (
  gb_i x2 (
  lt_b (ph_i h 48 x1.toNatClampNeg x2) fun h_4 =>
  bd_2 (f_X12_layFar h_4) fun r_6 h_7 =>
  some (1, h_7))))))
  else (
  some ((-1), h))
theorem e_X12_shut : yX12_shut.cls = RX12 ∧ yX12_shut.cls ≠ "java/lang/invoke/MethodHandle" ∧ yX12_shut.cls ≠ "java/lang/invoke/VarHandle" ∧ (parseMethodDescriptor yX12_shut.desc).map (fun d => d.parameters.length) = some 2 := by decide +kernel
set_option maxRecDepth 100000 in
set_option maxHeartbeats 4000000 in
theorem c_X12_shut (x1 : Int32) (x2 : Int32) (h : PH) (h2 : PH) (r : Int32) (hf : f_X12_shut x1 x2 h = some (r, h2)) : Con yX12_shut wsX12_shut (rm_d 2) l0_B [.ref 43, .int x1, .int x2] h (some (.int r)) h2 := by
  have hn12 : ∀ w ∈ wsX120, w ∈ wsX12_shut := (fun _ hw => (List.mem_cons_of_mem _ (List.mem_append_right _ hw)))
  refine con_i (ty := .int) (cc := cX12_shut) (nL := 4) (by decide) rfl (Nat.le_of_ble_eq_true rfl) ?_
  intro C hC hret
  change Go l0_B C 0 0 0 [(0, .ref 43), (1, .int x1), (2, .int x2)] [] h
  unfold f_X12_shut at hf
  refine go_aload_n hC dX12_shut_0 rfl 0 rfl ?_
  refine go_iload_n hC dX12_shut_1 rfl 1 rfl ?_
  obtain ⟨r_1, hc, hf⟩ := bd_e1 hf
  refine go_callV hC (c_X12_noRun x1 h r_1 hc) gX12_shut_X12_noRun rfl ⟨rfl, rfl⟩ 1 e_X12_noRun ⟨Nat.le_of_ble_eq_true rfl, Nat.le_of_ble_eq_true rfl⟩ (b_43 _) rfl rfl (st := []) (st1 := [.int r_1]) rfl rfl (Nat.le_of_ble_eq_true rfl) ⟨Nat.zero_le _, Nat.zero_le _⟩ dX12_shut_2 ?_
  refine go_if_eq hC dX12_shut_5 (tgt := 10) (by decide) (fun c_14 => ?_) (fun c_14 => ?_)
  · replace hf := if_t c_14 hf
    refine go_aload_n hC dX12_shut_10 rfl 0 rfl ?_
    refine go_getr hC (j := 8) (idx := 22) (nm := "isShut") (ds := "[Z") (b_43 _) rfl rfl hn12 (Nat.le_of_ble_eq_true rfl) rfl rfl (List.mem_cons_of_mem _ (List.mem_append_left _ (List.mem_append_left _ (List.mem_of_getElem? (i := 0) rfl)))) (Or.inl rfl) dX12_shut_11 ?_
    refine go_iload_n hC dX12_shut_14 rfl 1 rfl ?_
    obtain ⟨g_2, hf⟩ := ga_e hf
    refine go_zald hC (b_48 _) g_2 dX12_shut_15 ?_
    refine go_iload_n hC dX12_shut_16 rfl 2 rfl ?_
    refine go_icmp_ne hC dX12_shut_17 (tgt := 24) (by decide) (fun c_13 => ?_) (fun c_13 => ?_)
    · replace hf := if_f c_13 hf
      refine go_iconst hC dX12_shut_24 k1_1 ?_
      refine go_istore_n hC dX12_shut_25 rfl (Nat.le_of_ble_eq_true rfl) rfl ?_
      refine go_aload_n hC dX12_shut_26 rfl 1 rfl ?_
      refine go_getr hC (j := 8) (idx := 22) (nm := "isShut") (ds := "[Z") (b_43 _) rfl rfl hn12 (Nat.le_of_ble_eq_true rfl) rfl rfl (List.mem_cons_of_mem _ (List.mem_append_left _ (List.mem_append_left _ (List.mem_of_getElem? (i := 0) rfl)))) (Or.inl rfl) dX12_shut_27 ?_
      refine go_iload_n hC dX12_shut_30 rfl 2 rfl ?_
      refine go_iload_n hC dX12_shut_31 rfl 3 rfl ?_
      obtain ⟨g_3, hf⟩ := ga_e hf
      obtain ⟨g_5, hf⟩ := gb_e hf
      obtain ⟨h_4, eh_4, hf⟩ := lt_e hf
      refine go_zast hC (b_48 _) g_3 g_5 dX12_shut_32 ?_
      refine go_toph eh_4 ?_
      refine go_aload_n hC dX12_shut_33 rfl 1 rfl ?_
      obtain ⟨r_6, h_7, hc, hf⟩ := bd_e2 hf
      refine go_callV hC (c_X12_layFar h_4 h_7 hc) gX12_shut_X12_layFar rfl ⟨rfl, rfl⟩ 0 e_X12_layFar ⟨Nat.le_of_ble_eq_true rfl, Nat.le_of_ble_eq_true rfl⟩ (b_43 _) rfl rfl (st := []) (st1 := []) rfl rfl (Nat.le_of_ble_eq_true rfl) ⟨Nat.zero_le _, Nat.zero_le _⟩ dX12_shut_34 ?_
      refine go_iload_n hC dX12_shut_37 rfl 0 rfl ?_
      obtain ⟨rfl, rfl⟩ := so_2 hf
      exact hret _ _ rfl dX12_shut_38
    · replace hf := if_t c_13 hf
      refine go_iconst hC dX12_shut_20 k1_0 ?_
      refine go_goto hC dX12_shut_21 (tgt := 25) (by decide) ?_
      refine go_istore_n hC dX12_shut_25 rfl (Nat.le_of_ble_eq_true rfl) rfl ?_
      refine go_aload_n hC dX12_shut_26 rfl 1 rfl ?_
      refine go_getr hC (j := 8) (idx := 22) (nm := "isShut") (ds := "[Z") (b_43 _) rfl rfl hn12 (Nat.le_of_ble_eq_true rfl) rfl rfl (List.mem_cons_of_mem _ (List.mem_append_left _ (List.mem_append_left _ (List.mem_of_getElem? (i := 0) rfl)))) (Or.inl rfl) dX12_shut_27 ?_
      refine go_iload_n hC dX12_shut_30 rfl 2 rfl ?_
      refine go_iload_n hC dX12_shut_31 rfl 3 rfl ?_
      obtain ⟨g_8, hf⟩ := ga_e hf
      obtain ⟨g_10, hf⟩ := gb_e hf
      obtain ⟨h_9, eh_9, hf⟩ := lt_e hf
      refine go_zast hC (b_48 _) g_8 g_10 dX12_shut_32 ?_
      refine go_toph eh_9 ?_
      refine go_aload_n hC dX12_shut_33 rfl 1 rfl ?_
      obtain ⟨r_11, h_12, hc, hf⟩ := bd_e2 hf
      refine go_callV hC (c_X12_layFar h_9 h_12 hc) gX12_shut_X12_layFar rfl ⟨rfl, rfl⟩ 0 e_X12_layFar ⟨Nat.le_of_ble_eq_true rfl, Nat.le_of_ble_eq_true rfl⟩ (b_43 _) rfl rfl (st := []) (st1 := []) rfl rfl (Nat.le_of_ble_eq_true rfl) ⟨Nat.zero_le _, Nat.zero_le _⟩ dX12_shut_34 ?_
      refine go_iload_n hC dX12_shut_37 rfl 0 rfl ?_
      obtain ⟨rfl, rfl⟩ := so_2 hf
      exact hret _ _ rfl dX12_shut_38
  · replace hf := if_f c_14 hf
    refine go_iconst hC dX12_shut_8 k1_m1 ?_
    obtain ⟨rfl, rfl⟩ := so_2 hf
    exact hret _ _ rfl dX12_shut_9
def f_X12_leadsTo (x1 : Int32) (x2 : Int32) (h : PH) : Option (Int32) :=
  ga_i x1 14 (
  if (h.1 48 x1.toNatClampNeg) = 0 then (
  ga_i x1 14 (
  if (h.1 44 x1.toNatClampNeg) = x2 then (
  ga_i x1 14 (
  some (h.1 45 x1.toNatClampNeg)))
  else (
  ga_i x1 14 (
  if (h.1 45 x1.toNatClampNeg) = x2 then (
  ga_i x1 14 (
  some (h.1 44 x1.toNatClampNeg)))
  else (
  some (-9))))))
  else (
  some (-9)))
theorem e_X12_leadsTo : yX12_leadsTo.cls = RX12 ∧ yX12_leadsTo.cls ≠ "java/lang/invoke/MethodHandle" ∧ yX12_leadsTo.cls ≠ "java/lang/invoke/VarHandle" ∧ (parseMethodDescriptor yX12_leadsTo.desc).map (fun d => d.parameters.length) = some 2 := by decide +kernel
set_option maxRecDepth 100000 in
set_option maxHeartbeats 4000000 in
theorem c_X12_leadsTo (x1 : Int32) (x2 : Int32) (h : PH) (r : Int32) (hf : f_X12_leadsTo x1 x2 h = some r) : Con yX12_leadsTo wsX12_leadsTo (rm_d 0) l0_B [.ref 43, .int x1, .int x2] h (some (.int r)) h := by
  have hn12 : ∀ w ∈ wsX120, w ∈ wsX12_leadsTo := (fun _ hw => (List.mem_cons_of_mem _ (List.mem_append_right _ hw)))
  refine con_i (ty := .int) (cc := cX12_leadsTo) (nL := 3) (by decide) rfl (Nat.le_of_ble_eq_true rfl) ?_
  intro C hC hret
  change Go l0_B C 0 0 0 [(0, .ref 43), (1, .int x1), (2, .int x2)] [] h
  unfold f_X12_leadsTo at hf
  refine go_aload_n hC dX12_leadsTo_0 rfl 0 rfl ?_
  refine go_getr hC (j := 8) (idx := 22) (nm := "isShut") (ds := "[Z") (b_43 _) rfl rfl hn12 (Nat.le_of_ble_eq_true rfl) rfl rfl (List.mem_cons_of_mem _ (List.mem_append_left _ (List.mem_of_getElem? (i := 0) rfl))) (Or.inl rfl) dX12_leadsTo_1 ?_
  refine go_iload_n hC dX12_leadsTo_4 rfl 1 rfl ?_
  obtain ⟨g_1, hf⟩ := ga_e hf
  refine go_zald hC (b_48 _) g_1 dX12_leadsTo_5 ?_
  refine go_if_eq hC dX12_leadsTo_6 (tgt := 14) (by decide) (fun c_8 => ?_) (fun c_8 => ?_)
  · replace hf := if_t c_8 hf
    refine go_aload_n hC dX12_leadsTo_14 rfl 0 rfl ?_
    refine go_getr hC (j := 4) (idx := 7) (nm := "runOne") (ds := "[I") (b_43 _) rfl rfl hn12 (Nat.le_of_ble_eq_true rfl) rfl rfl (List.mem_cons_of_mem _ (List.mem_append_left _ (List.mem_of_getElem? (i := 1) rfl))) (Or.inl rfl) dX12_leadsTo_15 ?_
    refine go_iload_n hC dX12_leadsTo_18 rfl 1 rfl ?_
    obtain ⟨g_2, hf⟩ := ga_e hf
    refine go_iald hC (b_44 _) g_2 dX12_leadsTo_19 ?_
    refine go_iload_n hC dX12_leadsTo_20 rfl 2 rfl ?_
    refine go_icmp_ne hC dX12_leadsTo_21 (tgt := 33) (by decide) (fun c_7 => ?_) (fun c_7 => ?_)
    · replace hf := if_f c_7 hf
      refine go_aload_n hC dX12_leadsTo_33 rfl 0 rfl ?_
      refine go_getr hC (j := 5) (idx := 13) (nm := "runTwo") (ds := "[I") (b_43 _) rfl rfl hn12 (Nat.le_of_ble_eq_true rfl) rfl rfl (List.mem_cons_of_mem _ (List.mem_append_left _ (List.mem_of_getElem? (i := 2) rfl))) (Or.inl rfl) dX12_leadsTo_34 ?_
      refine go_iload_n hC dX12_leadsTo_37 rfl 1 rfl ?_
      obtain ⟨g_3, hf⟩ := ga_e hf
      refine go_iald hC (b_45 _) g_3 dX12_leadsTo_38 ?_
      refine go_iload_n hC dX12_leadsTo_39 rfl 2 rfl ?_
      refine go_icmp_ne hC dX12_leadsTo_40 (tgt := 52) (by decide) (fun c_5 => ?_) (fun c_5 => ?_)
      · replace hf := if_f c_5 hf
        refine go_bipush hC dX12_leadsTo_52 k8_m9 ?_
        obtain rfl := so_1 hf
        exact hret _ _ rfl dX12_leadsTo_54
      · replace hf := if_t c_5 hf
        refine go_aload_n hC dX12_leadsTo_43 rfl 0 rfl ?_
        refine go_getr hC (j := 4) (idx := 7) (nm := "runOne") (ds := "[I") (b_43 _) rfl rfl hn12 (Nat.le_of_ble_eq_true rfl) rfl rfl (List.mem_cons_of_mem _ (List.mem_append_left _ (List.mem_of_getElem? (i := 1) rfl))) (Or.inl rfl) dX12_leadsTo_44 ?_
        refine go_iload_n hC dX12_leadsTo_47 rfl 1 rfl ?_
        obtain ⟨g_4, hf⟩ := ga_e hf
        refine go_iald hC (b_44 _) g_4 dX12_leadsTo_48 ?_
        refine go_goto hC dX12_leadsTo_49 (tgt := 54) (by decide) ?_
        obtain rfl := so_1 hf
        exact hret _ _ rfl dX12_leadsTo_54
    · replace hf := if_t c_7 hf
      refine go_aload_n hC dX12_leadsTo_24 rfl 0 rfl ?_
      refine go_getr hC (j := 5) (idx := 13) (nm := "runTwo") (ds := "[I") (b_43 _) rfl rfl hn12 (Nat.le_of_ble_eq_true rfl) rfl rfl (List.mem_cons_of_mem _ (List.mem_append_left _ (List.mem_of_getElem? (i := 2) rfl))) (Or.inl rfl) dX12_leadsTo_25 ?_
      refine go_iload_n hC dX12_leadsTo_28 rfl 1 rfl ?_
      obtain ⟨g_6, hf⟩ := ga_e hf
      refine go_iald hC (b_45 _) g_6 dX12_leadsTo_29 ?_
      refine go_goto hC dX12_leadsTo_30 (tgt := 54) (by decide) ?_
      obtain rfl := so_1 hf
      exact hret _ _ rfl dX12_leadsTo_54
  · replace hf := if_f c_8 hf
    refine go_bipush hC dX12_leadsTo_9 k8_m9 ?_
    refine go_goto hC dX12_leadsTo_11 (tgt := 54) (by decide) ?_
    obtain rfl := so_1 hf
    exact hret _ _ rfl dX12_leadsTo_54
def f_X12_isThere (x1 : Int32) (x2 : Int32) (h : PH) : Option (Int32) :=
  ga_i ((8 * x1) + x2) 64 (
  if 10000000 ≤ (h.1 53 ((8 * x1) + x2).toNatClampNeg) then (
  some 0)
  else (
  some 1))
theorem e_X12_isThere : yX12_isThere.cls = RX12 ∧ yX12_isThere.cls ≠ "java/lang/invoke/MethodHandle" ∧ yX12_isThere.cls ≠ "java/lang/invoke/VarHandle" ∧ (parseMethodDescriptor yX12_isThere.desc).map (fun d => d.parameters.length) = some 2 := by decide +kernel
set_option maxRecDepth 100000 in
set_option maxHeartbeats 4000000 in
theorem c_X12_isThere (x1 : Int32) (x2 : Int32) (h : PH) (r : Int32) (hf : f_X12_isThere x1 x2 h = some r) : Con yX12_isThere wsX12_isThere (rm_d 0) l0_B [.ref 43, .int x1, .int x2] h (some (.int r)) h := by
  have hn12 : ∀ w ∈ wsX120, w ∈ wsX12_isThere := (fun _ hw => (List.mem_cons_of_mem _ (List.mem_append_right _ hw)))
  refine con_i (ty := .boolean) (cc := cX12_isThere) (nL := 3) (by decide) rfl (Nat.le_of_ble_eq_true rfl) ?_
  intro C hC hret
  change Go l0_B C 0 0 0 [(0, .ref 43), (1, .int x1), (2, .int x2)] [] h
  unfold f_X12_isThere at hf
  refine go_aload_n hC dX12_isThere_0 rfl 0 rfl ?_
  refine go_getr hC (j := 18) (idx := 38) (nm := "far") (ds := "[I") (b_43 _) rfl rfl hn12 (Nat.le_of_ble_eq_true rfl) rfl rfl (List.mem_cons_of_mem _ (List.mem_append_left _ (List.mem_of_getElem? (i := 0) rfl))) (Or.inl rfl) dX12_isThere_1 ?_
  refine go_bipush hC dX12_isThere_4 k8_8 ?_
  refine go_iload_n hC dX12_isThere_6 rfl 1 rfl ?_
  refine go_imul hC dX12_isThere_7 ?_
  refine go_iload_n hC dX12_isThere_8 rfl 2 rfl ?_
  refine go_iadd hC dX12_isThere_9 ?_
  obtain ⟨g_1, hf⟩ := ga_e hf
  refine go_iald hC (b_53 _) g_1 dX12_isThere_10 ?_
  refine go_ldc hC (v := 10000000) (List.mem_cons_of_mem _ (List.mem_append_left _ (List.mem_of_getElem? (i := 1) rfl))) dX12_isThere_11 ?_
  refine go_icmp_ge hC dX12_isThere_13 (tgt := 20) (by decide) (fun c_2 => ?_) (fun c_2 => ?_)
  · replace hf := if_t c_2 hf
    refine go_iconst hC dX12_isThere_20 k1_0 ?_
    obtain rfl := so_1 hf
    exact hret _ _ (zo_n (Or.inl rfl)) dX12_isThere_21
  · replace hf := if_f c_2 hf
    refine go_iconst hC dX12_isThere_16 k1_1 ?_
    refine go_goto hC dX12_isThere_17 (tgt := 21) (by decide) ?_
    obtain rfl := so_1 hf
    exact hret _ _ (zo_n (Or.inr rfl)) dX12_isThere_21
def f_X12_yards (x1 : Int32) (x2 : Int32) (h : PH) : Option (Int32) :=
  ga_i ((8 * x1) + x2) 64 (
  some ((h.1 53 ((8 * x1) + x2).toNatClampNeg) / 1000))
theorem e_X12_yards : yX12_yards.cls = RX12 ∧ yX12_yards.cls ≠ "java/lang/invoke/MethodHandle" ∧ yX12_yards.cls ≠ "java/lang/invoke/VarHandle" ∧ (parseMethodDescriptor yX12_yards.desc).map (fun d => d.parameters.length) = some 2 := by decide +kernel
set_option maxRecDepth 100000 in
set_option maxHeartbeats 4000000 in
theorem c_X12_yards (x1 : Int32) (x2 : Int32) (h : PH) (r : Int32) (hf : f_X12_yards x1 x2 h = some r) : Con yX12_yards wsX12_yards (rm_d 0) l0_B [.ref 43, .int x1, .int x2] h (some (.int r)) h := by
  have hn12 : ∀ w ∈ wsX120, w ∈ wsX12_yards := (fun _ hw => (List.mem_cons_of_mem _ (List.mem_append_right _ hw)))
  refine con_i (ty := .int) (cc := cX12_yards) (nL := 3) (by decide) rfl (Nat.le_of_ble_eq_true rfl) ?_
  intro C hC hret
  change Go l0_B C 0 0 0 [(0, .ref 43), (1, .int x1), (2, .int x2)] [] h
  unfold f_X12_yards at hf
  refine go_aload_n hC dX12_yards_0 rfl 0 rfl ?_
  refine go_getr hC (j := 18) (idx := 38) (nm := "far") (ds := "[I") (b_43 _) rfl rfl hn12 (Nat.le_of_ble_eq_true rfl) rfl rfl (List.mem_cons_of_mem _ (List.mem_append_left _ (List.mem_of_getElem? (i := 0) rfl))) (Or.inl rfl) dX12_yards_1 ?_
  refine go_bipush hC dX12_yards_4 k8_8 ?_
  refine go_iload_n hC dX12_yards_6 rfl 1 rfl ?_
  refine go_imul hC dX12_yards_7 ?_
  refine go_iload_n hC dX12_yards_8 rfl 2 rfl ?_
  refine go_iadd hC dX12_yards_9 ?_
  obtain ⟨g_1, hf⟩ := ga_e hf
  refine go_iald hC (b_53 _) g_1 dX12_yards_10 ?_
  refine go_sipush hC dX12_yards_11 k16_1000 ?_
  refine go_idiv hC dX12_yards_14 (by decide) ?_
  obtain rfl := so_1 hf
  exact hret _ _ rfl dX12_yards_15
def lb_X12_nextRun_2 (x1 : Int32) (x2 : Int32) (h : PH) (x3 : Int32) : Option ((Int32) ⊕ ((Int32) ⊕ (Int32))) :=
  if (h.1 43 3) ≤ x3 then (
  some (.inr (.inr x3)))
  else (
  if x1 = x2 then (
  some (.inr (.inr x3)))
  else (
  bd_1 (f_X12_isThere x1 x2 h) fun r_13 =>
  if r_13 = 0 then (
  some (.inr (.inr x3)))
  else (
  bd_1 (f_X12_leadsTo x3 x1 h) fun r_14 =>
  if r_14 < 0 then (
  lt_b (x3 + 1) fun x3_15 =>
  some (.inl x3_15))
  else (
  ga_i ((8 * r_14) + x2) 64 (
  bd_1 (f_X12_costOf x3 h) fun r_17 =>
  ga_i ((8 * x1) + x2) 64 (
  if ((h.1 53 ((8 * r_14) + x2).toNatClampNeg) + r_17) = (h.1 53 ((8 * x1) + x2).toNatClampNeg) then (
  some (.inr (.inl x3)))
  else (
  lt_b (x3 + 1) fun x3_19 =>
  some (.inl x3_19))))))))
def f_X12_nextRun (x1 : Int32) (x2 : Int32) (h : PH) : Option (Int32) :=
  bd_1 (lp_f (fun s => lb_X12_nextRun_2 x1 x2 h s) fu_l 0) fun s_25 => sw_b s_25 (fun r_27 => some r_27) fun e_26 =>
  some (-9)
set_option maxRecDepth 100000 in
set_option maxHeartbeats 4000000 in
theorem lw_X12_nextRun_2 {C : GC} (hC : Cx C cX12_nextRun 5 wsX12_nextRun RX12 (some .int) (rm_d 1)) (x1 : Int32) (x2 : Int32) (h : PH) : ∀ (n9 : Nat) (x3 : Int32) (y : (Int32) ⊕ (Int32)), lp_f (fun s => lb_X12_nextRun_2 x1 x2 h s) n9 x3 = some y → ∀ (hk : match y with | .inl r => (∀ (pc : Nat) (L : List (Nat × Value)), narrow .int (.int r) = .int r → decode cX12_nextRun pc = .ok (.ireturn, 1) → Go l0_B C 0 0 pc L [.int r] h) | .inr e => Go l0_B C 0 0 77 [] [] h), Go l0_B C 0 0 2 [(0, .ref 43), (1, .int x1), (2, .int x2), (3, .int x3)] [] h := by
  have hn12 : ∀ w ∈ wsX120, w ∈ wsX12_nextRun := (fun _ hw => (List.mem_cons_of_mem _ (List.mem_append_right _ hw)))
  intro n9
  induction n9 with
  | zero =>
    intro x3 y hlp
    cases hlp
  | succ n9 ih =>
    intro x3 y hlp hk
    obtain ⟨k9, z, hk9, hf, hy⟩ := lp_e hlp
    cases hk9
    replace hf : lb_X12_nextRun_2 x1 x2 h x3 = some z := hf
    unfold lb_X12_nextRun_2 at hf
    refine go_iload_n hC dX12_nextRun_2 rfl 3 rfl ?_
    refine go_aload_n hC dX12_nextRun_3 rfl 0 rfl ?_
    refine go_geti hC (j := 3) (idx := 120) (nm := "runs") (ds := "I") (b_43 _) rfl rfl hn12 (Nat.le_of_ble_eq_true rfl) rfl rfl (List.mem_cons_of_mem _ (List.mem_append_left _ (List.mem_of_getElem? (i := 0) rfl))) (Or.inl rfl) dX12_nextRun_4 ?_
    refine go_icmp_ge hC dX12_nextRun_7 (tgt := 77) (by decide) (fun c_24 => ?_) (fun c_24 => ?_)
    · replace hf := if_t c_24 hf
      obtain rfl := so_1 hf
      obtain rfl := lp_x hy
      refine go_sub [] rfl ?_
      exact hk
    · replace hf := if_f c_24 hf
      refine go_iload_n hC dX12_nextRun_10 rfl 1 rfl ?_
      refine go_iload_n hC dX12_nextRun_11 rfl 2 rfl ?_
      refine go_icmp_eq hC dX12_nextRun_12 (tgt := 77) (by decide) (fun c_23 => ?_) (fun c_23 => ?_)
      · replace hf := if_t c_23 hf
        obtain rfl := so_1 hf
        obtain rfl := lp_x hy
        refine go_sub [] rfl ?_
        exact hk
      · replace hf := if_f c_23 hf
        refine go_aload_n hC dX12_nextRun_15 rfl 0 rfl ?_
        refine go_iload_n hC dX12_nextRun_16 rfl 1 rfl ?_
        refine go_iload_n hC dX12_nextRun_17 rfl 2 rfl ?_
        obtain ⟨r_13, hc, hf⟩ := bd_e1 hf
        refine go_callV hC (c_X12_isThere x1 x2 h r_13 hc) gX12_nextRun_X12_isThere rfl ⟨rfl, rfl⟩ 2 e_X12_isThere ⟨Nat.le_of_ble_eq_true rfl, Nat.le_of_ble_eq_true rfl⟩ (b_43 _) rfl rfl (st := []) (st1 := [.int r_13]) rfl rfl (Nat.le_of_ble_eq_true rfl) ⟨Nat.zero_le _, Nat.zero_le _⟩ dX12_nextRun_18 ?_
        refine go_if_eq hC dX12_nextRun_21 (tgt := 77) (by decide) (fun c_22 => ?_) (fun c_22 => ?_)
        · replace hf := if_t c_22 hf
          obtain rfl := so_1 hf
          obtain rfl := lp_x hy
          refine go_sub [] rfl ?_
          exact hk
        · replace hf := if_f c_22 hf
          refine go_aload_n hC dX12_nextRun_24 rfl 0 rfl ?_
          refine go_iload_n hC dX12_nextRun_25 rfl 3 rfl ?_
          refine go_iload_n hC dX12_nextRun_26 rfl 1 rfl ?_
          obtain ⟨r_14, hc, hf⟩ := bd_e1 hf
          refine go_callV hC (c_X12_leadsTo x3 x1 h r_14 hc) gX12_nextRun_X12_leadsTo rfl ⟨rfl, rfl⟩ 2 e_X12_leadsTo ⟨Nat.le_of_ble_eq_true rfl, Nat.le_of_ble_eq_true rfl⟩ (b_43 _) rfl rfl (st := []) (st1 := [.int r_14]) rfl rfl (Nat.le_of_ble_eq_true rfl) ⟨Nat.zero_le _, Nat.zero_le _⟩ dX12_nextRun_27 ?_
          refine go_istore hC dX12_nextRun_30 (Nat.le_of_ble_eq_true rfl) rfl ?_
          refine go_iload hC dX12_nextRun_32 0 rfl ?_
          refine go_if_lt hC dX12_nextRun_34 (tgt := 71) (by decide) (fun c_21 => ?_) (fun c_21 => ?_)
          · replace hf := if_t c_21 hf
            obtain ⟨x3_15, ex3_15, hf⟩ := lt_e hf
            refine go_iinc hC dX12_nextRun_71 4 rfl k1_1 ex3_15 (Nat.le_of_ble_eq_true rfl) rfl ?_
            refine go_goto hC dX12_nextRun_74 (tgt := 2) (by decide) ?_
            obtain rfl := so_1 hf
            refine go_sub [2, 3, 4, 0] rfl ?_
            exact ih x3_15 _ (lp_c hy) hk
          · replace hf := if_f c_21 hf
            refine go_aload_n hC dX12_nextRun_37 rfl 1 rfl ?_
            refine go_getr hC (j := 18) (idx := 38) (nm := "far") (ds := "[I") (b_43 _) rfl rfl hn12 (Nat.le_of_ble_eq_true rfl) rfl rfl (List.mem_cons_of_mem _ (List.mem_append_left _ (List.mem_of_getElem? (i := 1) rfl))) (Or.inl rfl) dX12_nextRun_38 ?_
            refine go_bipush hC dX12_nextRun_41 k8_8 ?_
            refine go_iload hC dX12_nextRun_43 0 rfl ?_
            refine go_imul hC dX12_nextRun_45 ?_
            refine go_iload_n hC dX12_nextRun_46 rfl 3 rfl ?_
            refine go_iadd hC dX12_nextRun_47 ?_
            obtain ⟨g_16, hf⟩ := ga_e hf
            refine go_iald hC (b_53 _) g_16 dX12_nextRun_48 ?_
            refine go_aload_n hC dX12_nextRun_49 rfl 1 rfl ?_
            refine go_iload_n hC dX12_nextRun_50 rfl 4 rfl ?_
            obtain ⟨r_17, hc, hf⟩ := bd_e1 hf
            refine go_callV hC (c_X12_costOf x3 h r_17 hc) gX12_nextRun_X12_costOf rfl ⟨rfl, rfl⟩ 1 e_X12_costOf ⟨Nat.le_of_ble_eq_true rfl, Nat.le_of_ble_eq_true rfl⟩ (b_43 _) rfl rfl (st := [.int (h.1 53 ((8 * r_14) + x2).toNatClampNeg)]) (st1 := [.int r_17, .int (h.1 53 ((8 * r_14) + x2).toNatClampNeg)]) rfl rfl (Nat.le_of_ble_eq_true rfl) ⟨Nat.zero_le _, Nat.zero_le _⟩ dX12_nextRun_51 ?_
            refine go_iadd hC dX12_nextRun_54 ?_
            refine go_aload_n hC dX12_nextRun_55 rfl 1 rfl ?_
            refine go_getr hC (j := 18) (idx := 38) (nm := "far") (ds := "[I") (b_43 _) rfl rfl hn12 (Nat.le_of_ble_eq_true rfl) rfl rfl (List.mem_cons_of_mem _ (List.mem_append_left _ (List.mem_of_getElem? (i := 1) rfl))) (Or.inl rfl) dX12_nextRun_56 ?_
            refine go_bipush hC dX12_nextRun_59 k8_8 ?_
            refine go_iload_n hC dX12_nextRun_61 rfl 2 rfl ?_
            refine go_imul hC dX12_nextRun_62 ?_
            refine go_iload_n hC dX12_nextRun_63 rfl 3 rfl ?_
            refine go_iadd hC dX12_nextRun_64 ?_
            obtain ⟨g_18, hf⟩ := ga_e hf
            refine go_iald hC (b_53 _) g_18 dX12_nextRun_65 ?_
            refine go_icmp_ne hC dX12_nextRun_66 (tgt := 71) (by decide) (fun c_20 => ?_) (fun c_20 => ?_)
            · replace hf := if_f c_20 hf
              obtain ⟨x3_19, ex3_19, hf⟩ := lt_e hf
              refine go_iinc hC dX12_nextRun_71 4 rfl k1_1 ex3_19 (Nat.le_of_ble_eq_true rfl) rfl ?_
              refine go_goto hC dX12_nextRun_74 (tgt := 2) (by decide) ?_
              obtain rfl := so_1 hf
              refine go_sub [2, 3, 4, 0] rfl ?_
              exact ih x3_19 _ (lp_c hy) hk
            · replace hf := if_t c_20 hf
              refine go_iload_n hC dX12_nextRun_69 rfl 4 rfl ?_
              obtain rfl := so_1 hf
              obtain rfl := lp_x hy
              exact hk _ _ rfl dX12_nextRun_70
theorem e_X12_nextRun : yX12_nextRun.cls = RX12 ∧ yX12_nextRun.cls ≠ "java/lang/invoke/MethodHandle" ∧ yX12_nextRun.cls ≠ "java/lang/invoke/VarHandle" ∧ (parseMethodDescriptor yX12_nextRun.desc).map (fun d => d.parameters.length) = some 2 := by decide +kernel
set_option maxRecDepth 100000 in
set_option maxHeartbeats 4000000 in
theorem c_X12_nextRun (x1 : Int32) (x2 : Int32) (h : PH) (r : Int32) (hf : f_X12_nextRun x1 x2 h = some r) : Con yX12_nextRun wsX12_nextRun (rm_d 1) l0_B [.ref 43, .int x1, .int x2] h (some (.int r)) h := by
  have hn12 : ∀ w ∈ wsX120, w ∈ wsX12_nextRun := (fun _ hw => (List.mem_cons_of_mem _ (List.mem_append_right _ hw)))
  refine con_i (ty := .int) (cc := cX12_nextRun) (nL := 5) (by decide) rfl (Nat.le_of_ble_eq_true rfl) ?_
  intro C hC hret
  change Go l0_B C 0 0 0 [(0, .ref 43), (1, .int x1), (2, .int x2)] [] h
  unfold f_X12_nextRun at hf
  refine go_iconst hC dX12_nextRun_0 k1_0 ?_
  refine go_istore_n hC dX12_nextRun_1 rfl (Nat.le_of_ble_eq_true rfl) rfl ?_
  obtain ⟨s_25, hl, hf⟩ := bd_e1 hf
  refine go_sub [1, 2, 3, 0] rfl ?_
  refine lw_X12_nextRun_2 hC x1 x2 h _ 0 s_25 hl ?_
  rcases s_25 with r_27 | e_26
  · replace hf : some r_27 = some _ := hf
    cases hf
    exact hret
  · replace hf := sw_r hf
    refine go_bipush hC dX12_nextRun_77 k8_m9 ?_
    obtain rfl := so_1 hf
    exact hret _ _ rfl dX12_nextRun_79
def lb_X12_runOf_15 (x2 : Int32) (x3 : Int32) (h : PH) (x4 : Int32) (x5 : Int32) (x6 : Int32) : Option ((Int32 × Int32 × Int32) ⊕ (Int32 × Int32 × Int32)) :=
  if x3 ≤ x6 then (
  some (.inr (x4, x5, x6)))
  else (
  if x5 < 0 then (
  some (.inr (x4, x5, x6)))
  else (
  bd_1 (f_X12_leadsTo x5 x4 h) fun r_7 =>
  bd_1 (f_X12_nextRun r_7 x2 h) fun r_8 =>
  lt_b (x6 + 1) fun x6_9 =>
  some (.inl (r_7, r_8, x6_9))))
def f_X12_runOf (x1 : Int32) (x2 : Int32) (x3 : Int32) (h : PH) : Option (Int32) :=
  bd_1 (f_X12_nextRun x1 x2 h) fun r_1 =>
  bd_1 (lp_f (fun s => lb_X12_runOf_15 x2 x3 h s.1 s.2.1 s.2.2) fu_l (x1, r_1, 0)) fun s_12 =>
  some s_12.2.1
set_option maxRecDepth 100000 in
set_option maxHeartbeats 4000000 in
theorem lw_X12_runOf_15 {C : GC} (hC : Cx C cX12_runOf 7 wsX12_runOf RX12 (some .int) (rm_d 2)) (x2 : Int32) (x3 : Int32) (h : PH) : ∀ (n9 : Nat) (x4 : Int32) (x5 : Int32) (x6 : Int32) (y : Int32 × Int32 × Int32), lp_f (fun s => lb_X12_runOf_15 x2 x3 h s.1 s.2.1 s.2.2) n9 (x4, x5, x6) = some y → ∀ (hk : Go l0_B C 0 0 51 [(5, .int y.2.1)] [] h), Go l0_B C 0 0 15 [(0, .ref 43), (2, .int x2), (3, .int x3), (4, .int x4), (5, .int x5), (6, .int x6)] [] h := by

  intro n9
  induction n9 with
  | zero =>
    intro x4 x5 x6 y hlp
    cases hlp
  | succ n9 ih =>
    intro x4 x5 x6 y hlp hk
    obtain ⟨k9, z, hk9, hf, hy⟩ := lp_e hlp
    cases hk9
    replace hf : lb_X12_runOf_15 x2 x3 h x4 x5 x6 = some z := hf
    unfold lb_X12_runOf_15 at hf
    refine go_iload hC dX12_runOf_15 5 rfl ?_
    refine go_iload_n hC dX12_runOf_17 rfl 2 rfl ?_
    refine go_icmp_ge hC dX12_runOf_18 (tgt := 51) (by decide) (fun c_11 => ?_) (fun c_11 => ?_)
    · replace hf := if_t c_11 hf
      obtain rfl := so_1 hf
      obtain rfl := lp_x hy
      refine go_sub [4] rfl ?_
      exact hk
    · replace hf := if_f c_11 hf
      refine go_iload hC dX12_runOf_21 4 rfl ?_
      refine go_if_lt hC dX12_runOf_23 (tgt := 51) (by decide) (fun c_10 => ?_) (fun c_10 => ?_)
      · replace hf := if_t c_10 hf
        obtain rfl := so_1 hf
        obtain rfl := lp_x hy
        refine go_sub [4] rfl ?_
        exact hk
      · replace hf := if_f c_10 hf
        refine go_aload_n hC dX12_runOf_26 rfl 0 rfl ?_
        refine go_iload hC dX12_runOf_27 4 rfl ?_
        refine go_iload hC dX12_runOf_29 3 rfl ?_
        obtain ⟨r_7, hc, hf⟩ := bd_e1 hf
        refine go_callV hC (c_X12_leadsTo x5 x4 h r_7 hc) gX12_runOf_X12_leadsTo rfl ⟨rfl, rfl⟩ 2 e_X12_leadsTo ⟨Nat.le_of_ble_eq_true rfl, Nat.le_of_ble_eq_true rfl⟩ (b_43 _) rfl rfl (st := []) (st1 := [.int r_7]) rfl rfl (Nat.le_of_ble_eq_true rfl) ⟨Nat.zero_le _, Nat.zero_le _⟩ dX12_runOf_31 ?_
        refine go_istore hC dX12_runOf_34 (Nat.le_of_ble_eq_true rfl) rfl ?_
        refine go_aload_n hC dX12_runOf_36 rfl 1 rfl ?_
        refine go_iload hC dX12_runOf_37 0 rfl ?_
        refine go_iload_n hC dX12_runOf_39 rfl 2 rfl ?_
        obtain ⟨r_8, hc, hf⟩ := bd_e1 hf
        refine go_callV hC (c_X12_nextRun r_7 x2 h r_8 hc) gX12_runOf_X12_nextRun rfl ⟨rfl, rfl⟩ 2 e_X12_nextRun ⟨Nat.le_of_ble_eq_true rfl, Nat.le_of_ble_eq_true rfl⟩ (b_43 _) rfl rfl (st := []) (st1 := [.int r_8]) rfl rfl (Nat.le_of_ble_eq_true rfl) ⟨Nat.zero_le _, Nat.zero_le _⟩ dX12_runOf_40 ?_
        refine go_istore hC dX12_runOf_43 (Nat.le_of_ble_eq_true rfl) rfl ?_
        obtain ⟨x6_9, ex6_9, hf⟩ := lt_e hf
        refine go_iinc hC dX12_runOf_45 5 rfl k1_1 ex6_9 (Nat.le_of_ble_eq_true rfl) rfl ?_
        refine go_goto hC dX12_runOf_48 (tgt := 15) (by decide) ?_
        obtain rfl := so_1 hf
        refine go_sub [3, 4, 5, 2, 1, 0] rfl ?_
        exact ih r_7 r_8 x6_9 _ (lp_c hy) hk
theorem e_X12_runOf : yX12_runOf.cls = RX12 ∧ yX12_runOf.cls ≠ "java/lang/invoke/MethodHandle" ∧ yX12_runOf.cls ≠ "java/lang/invoke/VarHandle" ∧ (parseMethodDescriptor yX12_runOf.desc).map (fun d => d.parameters.length) = some 3 := by decide +kernel
set_option maxRecDepth 100000 in
set_option maxHeartbeats 4000000 in
theorem c_X12_runOf (x1 : Int32) (x2 : Int32) (x3 : Int32) (h : PH) (r : Int32) (hf : f_X12_runOf x1 x2 x3 h = some r) : Con yX12_runOf wsX12_runOf (rm_d 2) l0_B [.ref 43, .int x1, .int x2, .int x3] h (some (.int r)) h := by

  refine con_i (ty := .int) (cc := cX12_runOf) (nL := 7) (by decide) rfl (Nat.le_of_ble_eq_true rfl) ?_
  intro C hC hret
  change Go l0_B C 0 0 0 [(0, .ref 43), (1, .int x1), (2, .int x2), (3, .int x3)] [] h
  unfold f_X12_runOf at hf
  refine go_iload_n hC dX12_runOf_0 rfl 1 rfl ?_
  refine go_istore hC dX12_runOf_1 (Nat.le_of_ble_eq_true rfl) rfl ?_
  refine go_aload_n hC dX12_runOf_3 rfl 1 rfl ?_
  refine go_iload hC dX12_runOf_4 0 rfl ?_
  refine go_iload_n hC dX12_runOf_6 rfl 3 rfl ?_
  obtain ⟨r_1, hc, hf⟩ := bd_e1 hf
  refine go_callV hC (c_X12_nextRun x1 x2 h r_1 hc) gX12_runOf_X12_nextRun rfl ⟨rfl, rfl⟩ 2 e_X12_nextRun ⟨Nat.le_of_ble_eq_true rfl, Nat.le_of_ble_eq_true rfl⟩ (b_43 _) rfl rfl (st := []) (st1 := [.int r_1]) rfl rfl (Nat.le_of_ble_eq_true rfl) ⟨Nat.zero_le _, Nat.zero_le _⟩ dX12_runOf_7 ?_
  refine go_istore hC dX12_runOf_10 (Nat.le_of_ble_eq_true rfl) rfl ?_
  refine go_iconst hC dX12_runOf_12 k1_0 ?_
  refine go_istore hC dX12_runOf_13 (Nat.le_of_ble_eq_true rfl) rfl ?_
  obtain ⟨s_12, hl, hf⟩ := bd_e1 hf
  refine go_sub [3, 5, 6, 2, 1, 0] rfl ?_
  refine lw_X12_runOf_15 hC x2 x3 h _ x1 r_1 0 s_12 hl ?_
  refine go_iload hC dX12_runOf_51 0 rfl ?_
  obtain rfl := so_1 hf
  exact hret _ _ rfl dX12_runOf_53
def lb_X12_run_48 (x1 : Int32) (x2 : Int32) (x3 : Int32) (h : PH) (x4 : Int32) : Option ((Int32) ⊕ (Int32)) :=
  bd_1 (f_X12_runOf x1 x2 x4 h) fun r_8 =>
  if r_8 < 0 then (
  some (.inr x4))
  else (
  lt_b (x4 + 1) fun x4_9 =>
  some (.inl x4_9))
def f_X12_run (x1 : Int32) (x2 : Int32) (x3 : Int32) (h : PH) : Option (Int32) :=
  bd_1 (f_X12_noPlace x1 h) fun r_1 =>
  if r_1 = 0 then (
  bd_1 (f_X12_noPlace x2 h) fun r_2 =>
  if r_2 = 0 then (
  bd_1 (f_X12_in x3.toInt64 0 2 h) fun r_3 =>
  if r_3 = 0 then (
  some (-2))
  else (
  bd_1 (f_X12_isThere x1 x2 h) fun r_4 =>
  if r_4 = 0 then (
  some (-9))
  else (
  bd_1 (lp_f (fun s => lb_X12_run_48 x1 x2 x3 h s) fu_l 0) fun s_11 =>
  if x3 = 0 then (
  bd_1 (f_X12_yards x1 x2 h) fun r_14 =>
  some r_14)
  else (
  if x3 = 1 then (
  ga_i ((8 * x1) + x2) 64 (
  some ((h.1 53 ((8 * x1) + x2).toNatClampNeg) - (h.1 53 ((8 * x1) + x2).toNatClampNeg) / 1000 * 1000)))
  else (
  some s_11)))))
  else (
  some (-1)))
  else (
  some (-1))
set_option maxRecDepth 100000 in
set_option maxHeartbeats 4000000 in
theorem lw_X12_run_48 {C : GC} (hC : Cx C cX12_run 5 wsX12_run RX12 (some .int) (rm_d 3)) (x1 : Int32) (x2 : Int32) (x3 : Int32) (h : PH) : ∀ (n9 : Nat) (x4 : Int32) (y : Int32), lp_f (fun s => lb_X12_run_48 x1 x2 x3 h s) n9 x4 = some y → ∀ (hk : Go l0_B C 0 0 65 [(0, .ref 43), (1, .int x1), (2, .int x2), (3, .int x3), (4, .int y)] [] h), Go l0_B C 0 0 48 [(0, .ref 43), (1, .int x1), (2, .int x2), (3, .int x3), (4, .int x4)] [] h := by

  intro n9
  induction n9 with
  | zero =>
    intro x4 y hlp
    cases hlp
  | succ n9 ih =>
    intro x4 y hlp hk
    obtain ⟨k9, z, hk9, hf, hy⟩ := lp_e hlp
    cases hk9
    replace hf : lb_X12_run_48 x1 x2 x3 h x4 = some z := hf
    unfold lb_X12_run_48 at hf
    refine go_aload_n hC dX12_run_48 rfl 0 rfl ?_
    refine go_iload_n hC dX12_run_49 rfl 1 rfl ?_
    refine go_iload_n hC dX12_run_50 rfl 2 rfl ?_
    refine go_iload hC dX12_run_51 4 rfl ?_
    obtain ⟨r_8, hc, hf⟩ := bd_e1 hf
    refine go_callV hC (c_X12_runOf x1 x2 x4 h r_8 hc) gX12_run_X12_runOf rfl ⟨rfl, rfl⟩ 3 e_X12_runOf ⟨Nat.le_of_ble_eq_true rfl, Nat.le_of_ble_eq_true rfl⟩ (b_43 _) rfl rfl (st := []) (st1 := [.int r_8]) rfl rfl (Nat.le_of_ble_eq_true rfl) ⟨Nat.zero_le _, Nat.zero_le _⟩ dX12_run_53 ?_
    refine go_if_lt hC dX12_run_56 (tgt := 65) (by decide) (fun c_10 => ?_) (fun c_10 => ?_)
    · replace hf := if_t c_10 hf
      obtain rfl := so_1 hf
      obtain rfl := lp_x hy
      exact hk
    · replace hf := if_f c_10 hf
      obtain ⟨x4_9, ex4_9, hf⟩ := lt_e hf
      refine go_iinc hC dX12_run_59 4 rfl k1_1 ex4_9 (Nat.le_of_ble_eq_true rfl) rfl ?_
      refine go_goto hC dX12_run_62 (tgt := 48) (by decide) ?_
      obtain rfl := so_1 hf
      refine go_sub [1, 2, 3, 4, 0] rfl ?_
      exact ih x4_9 _ (lp_c hy) hk
theorem e_X12_run : yX12_run.cls = RX12 ∧ yX12_run.cls ≠ "java/lang/invoke/MethodHandle" ∧ yX12_run.cls ≠ "java/lang/invoke/VarHandle" ∧ (parseMethodDescriptor yX12_run.desc).map (fun d => d.parameters.length) = some 3 := by decide +kernel
set_option maxRecDepth 100000 in
set_option maxHeartbeats 4000000 in
theorem c_X12_run (x1 : Int32) (x2 : Int32) (x3 : Int32) (h : PH) (r : Int32) (hf : f_X12_run x1 x2 x3 h = some r) : Con yX12_run wsX12_run (rm_d 3) l0_B [.ref 43, .int x1, .int x2, .int x3] h (some (.int r)) h := by
  have hn12 : ∀ w ∈ wsX120, w ∈ wsX12_run := (fun _ hw => (List.mem_cons_of_mem _ (List.mem_append_right _ hw)))
  refine con_i (ty := .int) (cc := cX12_run) (nL := 5) (by decide) rfl (Nat.le_of_ble_eq_true rfl) ?_
  intro C hC hret
  change Go l0_B C 0 0 0 [(0, .ref 43), (1, .int x1), (2, .int x2), (3, .int x3)] [] h
  unfold f_X12_run at hf
  refine go_aload_n hC dX12_run_0 rfl 0 rfl ?_
  refine go_iload_n hC dX12_run_1 rfl 1 rfl ?_
  obtain ⟨r_1, hc, hf⟩ := bd_e1 hf
  refine go_callV hC (c_X12_noPlace x1 h r_1 hc) gX12_run_X12_noPlace rfl ⟨rfl, rfl⟩ 1 e_X12_noPlace ⟨Nat.le_of_ble_eq_true rfl, Nat.le_of_ble_eq_true rfl⟩ (b_43 _) rfl rfl (st := []) (st1 := [.int r_1]) rfl rfl (Nat.le_of_ble_eq_true rfl) ⟨Nat.zero_le _, Nat.zero_le _⟩ dX12_run_2 ?_
  refine go_if_ne hC dX12_run_5 (tgt := 16) (by decide) (fun c_19 => ?_) (fun c_19 => ?_)
  · replace hf := if_f c_19 hf
    refine go_iconst hC dX12_run_16 k1_m1 ?_
    obtain rfl := so_1 hf
    exact hret _ _ rfl dX12_run_17
  · replace hf := if_t c_19 hf
    refine go_aload_n hC dX12_run_8 rfl 0 rfl ?_
    refine go_iload_n hC dX12_run_9 rfl 2 rfl ?_
    obtain ⟨r_2, hc, hf⟩ := bd_e1 hf
    refine go_callV hC (c_X12_noPlace x2 h r_2 hc) gX12_run_X12_noPlace rfl ⟨rfl, rfl⟩ 1 e_X12_noPlace ⟨Nat.le_of_ble_eq_true rfl, Nat.le_of_ble_eq_true rfl⟩ (b_43 _) rfl rfl (st := []) (st1 := [.int r_2]) rfl rfl (Nat.le_of_ble_eq_true rfl) ⟨Nat.zero_le _, Nat.zero_le _⟩ dX12_run_10 ?_
    refine go_if_eq hC dX12_run_13 (tgt := 18) (by decide) (fun c_18 => ?_) (fun c_18 => ?_)
    · replace hf := if_t c_18 hf
      refine go_iload_n hC dX12_run_18 rfl 3 rfl ?_
      refine go_i2l hC dX12_run_19 ?_
      refine go_lconst hC dX12_run_20 (v := 0) rfl ?_
      refine go_ldc2 hC (v := 2) (List.mem_cons_of_mem _ (List.mem_append_left _ (List.mem_append_left _ (List.mem_of_getElem? (i := 0) rfl)))) dX12_run_21 ?_
      obtain ⟨r_3, hc, hf⟩ := bd_e1 hf
      refine go_callS hC (c_X12_in x3.toInt64 0 2 h r_3 hc) gX12_run_X12_in rfl ⟨rfl, rfl⟩ 3 e_X12_in ⟨Nat.le_of_ble_eq_true rfl, Nat.le_of_ble_eq_true rfl⟩ rfl (st := []) (st1 := [.int r_3]) rfl rfl (Nat.le_of_ble_eq_true rfl) ⟨Nat.zero_le _, Nat.zero_le _⟩ dX12_run_24 ?_
      refine go_if_ne hC dX12_run_27 (tgt := 33) (by decide) (fun c_17 => ?_) (fun c_17 => ?_)
      · replace hf := if_f c_17 hf
        refine go_aload_n hC dX12_run_33 rfl 0 rfl ?_
        refine go_iload_n hC dX12_run_34 rfl 1 rfl ?_
        refine go_iload_n hC dX12_run_35 rfl 2 rfl ?_
        obtain ⟨r_4, hc, hf⟩ := bd_e1 hf
        refine go_callV hC (c_X12_isThere x1 x2 h r_4 hc) gX12_run_X12_isThere rfl ⟨rfl, rfl⟩ 2 e_X12_isThere ⟨Nat.le_of_ble_eq_true rfl, Nat.le_of_ble_eq_true rfl⟩ (b_43 _) rfl rfl (st := []) (st1 := [.int r_4]) rfl rfl (Nat.le_of_ble_eq_true rfl) ⟨Nat.zero_le _, Nat.zero_le _⟩ dX12_run_36 ?_
        refine go_if_ne hC dX12_run_39 (tgt := 45) (by decide) (fun c_16 => ?_) (fun c_16 => ?_)
        · replace hf := if_f c_16 hf
          refine go_iconst hC dX12_run_45 k1_0 ?_
          refine go_istore hC dX12_run_46 (Nat.le_of_ble_eq_true rfl) rfl ?_
          obtain ⟨s_11, hl, hf⟩ := bd_e1 hf
          refine go_sub [1, 2, 3, 4, 0] rfl ?_
          refine lw_X12_run_48 hC x1 x2 x3 h _ 0 s_11 hl ?_
          refine go_iload_n hC dX12_run_65 rfl 3 rfl ?_
          refine go_if_ne hC dX12_run_66 (tgt := 78) (by decide) (fun c_15 => ?_) (fun c_15 => ?_)
          · replace hf := if_f c_15 hf
            refine go_iload_n hC dX12_run_78 rfl 3 rfl ?_
            refine go_iconst hC dX12_run_79 k1_1 ?_
            refine go_icmp_ne hC dX12_run_80 (tgt := 101) (by decide) (fun c_13 => ?_) (fun c_13 => ?_)
            · replace hf := if_f c_13 hf
              refine go_iload hC dX12_run_101 4 rfl ?_
              obtain rfl := so_1 hf
              exact hret _ _ rfl dX12_run_103
            · replace hf := if_t c_13 hf
              refine go_aload_n hC dX12_run_83 rfl 0 rfl ?_
              refine go_getr hC (j := 18) (idx := 38) (nm := "far") (ds := "[I") (b_43 _) rfl rfl hn12 (Nat.le_of_ble_eq_true rfl) rfl rfl (List.mem_cons_of_mem _ (List.mem_append_left _ (List.mem_append_left _ (List.mem_of_getElem? (i := 1) rfl)))) (Or.inl rfl) dX12_run_84 ?_
              refine go_bipush hC dX12_run_87 k8_8 ?_
              refine go_iload_n hC dX12_run_89 rfl 1 rfl ?_
              refine go_imul hC dX12_run_90 ?_
              refine go_iload_n hC dX12_run_91 rfl 2 rfl ?_
              refine go_iadd hC dX12_run_92 ?_
              obtain ⟨g_12, hf⟩ := ga_e hf
              refine go_iald hC (b_53 _) g_12 dX12_run_93 ?_
              refine go_sipush hC dX12_run_94 k16_1000 ?_
              refine go_irem hC dX12_run_97 (by decide) ?_
              refine go_goto hC dX12_run_98 (tgt := 103) (by decide) ?_
              obtain rfl := so_1 hf
              exact hret _ _ rfl dX12_run_103
          · replace hf := if_t c_15 hf
            refine go_aload_n hC dX12_run_69 rfl 0 rfl ?_
            refine go_iload_n hC dX12_run_70 rfl 1 rfl ?_
            refine go_iload_n hC dX12_run_71 rfl 2 rfl ?_
            obtain ⟨r_14, hc, hf⟩ := bd_e1 hf
            refine go_callV hC (c_X12_yards x1 x2 h r_14 hc) gX12_run_X12_yards rfl ⟨rfl, rfl⟩ 2 e_X12_yards ⟨Nat.le_of_ble_eq_true rfl, Nat.le_of_ble_eq_true rfl⟩ (b_43 _) rfl rfl (st := []) (st1 := [.int r_14]) rfl rfl (Nat.le_of_ble_eq_true rfl) ⟨Nat.zero_le _, Nat.zero_le _⟩ dX12_run_72 ?_
            refine go_goto hC dX12_run_75 (tgt := 103) (by decide) ?_
            obtain rfl := so_1 hf
            exact hret _ _ rfl dX12_run_103
        · replace hf := if_t c_16 hf
          refine go_bipush hC dX12_run_42 k8_m9 ?_
          obtain rfl := so_1 hf
          exact hret _ _ rfl dX12_run_44
      · replace hf := if_t c_17 hf
        refine go_bipush hC dX12_run_30 k8_m2 ?_
        obtain rfl := so_1 hf
        exact hret _ _ rfl dX12_run_32
    · replace hf := if_f c_18 hf
      refine go_iconst hC dX12_run_16 k1_m1 ?_
      obtain rfl := so_1 hf
      exact hret _ _ rfl dX12_run_17
def f_X12_along (x1 : Int32) (x2 : Int32) (x3 : Int32) (h : PH) : Option (Int32) :=
  bd_1 (f_X12_noPlace x1 h) fun r_1 =>
  if r_1 = 0 then (
  bd_1 (f_X12_noPlace x2 h) fun r_2 =>
  if r_2 = 0 then (
  if 0 ≤ x3 then (
  if x3 ≤ 14 then (
  bd_1 (f_X12_runOf x1 x2 x3 h) fun r_3 =>
  some r_3)
  else (
  some (-9)))
  else (
  some (-2)))
  else (
  some (-1)))
  else (
  some (-1))
theorem e_X12_along : yX12_along.cls = RX12 ∧ yX12_along.cls ≠ "java/lang/invoke/MethodHandle" ∧ yX12_along.cls ≠ "java/lang/invoke/VarHandle" ∧ (parseMethodDescriptor yX12_along.desc).map (fun d => d.parameters.length) = some 3 := by decide +kernel
set_option maxRecDepth 100000 in
set_option maxHeartbeats 4000000 in
theorem c_X12_along (x1 : Int32) (x2 : Int32) (x3 : Int32) (h : PH) (r : Int32) (hf : f_X12_along x1 x2 x3 h = some r) : Con yX12_along wsX12_along (rm_d 3) l0_B [.ref 43, .int x1, .int x2, .int x3] h (some (.int r)) h := by

  refine con_i (ty := .int) (cc := cX12_along) (nL := 4) (by decide) rfl (Nat.le_of_ble_eq_true rfl) ?_
  intro C hC hret
  change Go l0_B C 0 0 0 [(0, .ref 43), (1, .int x1), (2, .int x2), (3, .int x3)] [] h
  unfold f_X12_along at hf
  refine go_aload_n hC dX12_along_0 rfl 0 rfl ?_
  refine go_iload_n hC dX12_along_1 rfl 1 rfl ?_
  obtain ⟨r_1, hc, hf⟩ := bd_e1 hf
  refine go_callV hC (c_X12_noPlace x1 h r_1 hc) gX12_along_X12_noPlace rfl ⟨rfl, rfl⟩ 1 e_X12_noPlace ⟨Nat.le_of_ble_eq_true rfl, Nat.le_of_ble_eq_true rfl⟩ (b_43 _) rfl rfl (st := []) (st1 := [.int r_1]) rfl rfl (Nat.le_of_ble_eq_true rfl) ⟨Nat.zero_le _, Nat.zero_le _⟩ dX12_along_2 ?_
  refine go_if_ne hC dX12_along_5 (tgt := 16) (by decide) (fun c_7 => ?_) (fun c_7 => ?_)
  · replace hf := if_f c_7 hf
    refine go_iconst hC dX12_along_16 k1_m1 ?_
    obtain rfl := so_1 hf
    exact hret _ _ rfl dX12_along_17
  · replace hf := if_t c_7 hf
    refine go_aload_n hC dX12_along_8 rfl 0 rfl ?_
    refine go_iload_n hC dX12_along_9 rfl 2 rfl ?_
    obtain ⟨r_2, hc, hf⟩ := bd_e1 hf
    refine go_callV hC (c_X12_noPlace x2 h r_2 hc) gX12_along_X12_noPlace rfl ⟨rfl, rfl⟩ 1 e_X12_noPlace ⟨Nat.le_of_ble_eq_true rfl, Nat.le_of_ble_eq_true rfl⟩ (b_43 _) rfl rfl (st := []) (st1 := [.int r_2]) rfl rfl (Nat.le_of_ble_eq_true rfl) ⟨Nat.zero_le _, Nat.zero_le _⟩ dX12_along_10 ?_
    refine go_if_eq hC dX12_along_13 (tgt := 18) (by decide) (fun c_6 => ?_) (fun c_6 => ?_)
    · replace hf := if_t c_6 hf
      refine go_iload_n hC dX12_along_18 rfl 3 rfl ?_
      refine go_if_ge hC dX12_along_19 (tgt := 27) (by decide) (fun c_5 => ?_) (fun c_5 => ?_)
      · replace hf := if_t c_5 hf
        refine go_iload_n hC dX12_along_27 rfl 3 rfl ?_
        refine go_bipush hC dX12_along_28 k8_14 ?_
        refine go_icmp_le hC dX12_along_30 (tgt := 38) (by decide) (fun c_4 => ?_) (fun c_4 => ?_)
        · replace hf := if_t c_4 hf
          refine go_aload_n hC dX12_along_38 rfl 0 rfl ?_
          refine go_iload_n hC dX12_along_39 rfl 1 rfl ?_
          refine go_iload_n hC dX12_along_40 rfl 2 rfl ?_
          refine go_iload_n hC dX12_along_41 rfl 3 rfl ?_
          obtain ⟨r_3, hc, hf⟩ := bd_e1 hf
          refine go_callV hC (c_X12_runOf x1 x2 x3 h r_3 hc) gX12_along_X12_runOf rfl ⟨rfl, rfl⟩ 3 e_X12_runOf ⟨Nat.le_of_ble_eq_true rfl, Nat.le_of_ble_eq_true rfl⟩ (b_43 _) rfl rfl (st := []) (st1 := [.int r_3]) rfl rfl (Nat.le_of_ble_eq_true rfl) ⟨Nat.zero_le _, Nat.zero_le _⟩ dX12_along_42 ?_
          obtain rfl := so_1 hf
          exact hret _ _ rfl dX12_along_45
        · replace hf := if_f c_4 hf
          refine go_bipush hC dX12_along_33 k8_m9 ?_
          refine go_goto hC dX12_along_35 (tgt := 45) (by decide) ?_
          obtain rfl := so_1 hf
          exact hret _ _ rfl dX12_along_45
      · replace hf := if_f c_5 hf
        refine go_bipush hC dX12_along_22 k8_m2 ?_
        refine go_goto hC dX12_along_24 (tgt := 45) (by decide) ?_
        obtain rfl := so_1 hf
        exact hret _ _ rfl dX12_along_45
    · replace hf := if_f c_6 hf
      refine go_iconst hC dX12_along_16 k1_m1 ?_
      obtain rfl := so_1 hf
      exact hret _ _ rfl dX12_along_17
def f_X12_box (x1 : Int32) (h : PH) : Option (Int32 × PH) :=
  bd_1 (f_X12_noPlace x1 h) fun r_1 =>
  if r_1 = 0 then (
  lt_b (h.1 43 2) fun x2_2 =>
  lt_b (ph_i h 43 2 x1) fun h_3 =>
  some (x2_2, h_3))
  else (
  some ((-1), h))
theorem e_X12_box : yX12_box.cls = RX12 ∧ yX12_box.cls ≠ "java/lang/invoke/MethodHandle" ∧ yX12_box.cls ≠ "java/lang/invoke/VarHandle" ∧ (parseMethodDescriptor yX12_box.desc).map (fun d => d.parameters.length) = some 1 := by decide +kernel
set_option maxRecDepth 100000 in
set_option maxHeartbeats 4000000 in
theorem c_X12_box (x1 : Int32) (h : PH) (h2 : PH) (r : Int32) (hf : f_X12_box x1 h = some (r, h2)) : Con yX12_box wsX12_box (rm_d 2) l0_B [.ref 43, .int x1] h (some (.int r)) h2 := by
  have hn12 : ∀ w ∈ wsX120, w ∈ wsX12_box := (fun _ hw => (List.mem_cons_of_mem _ (List.mem_append_right _ hw)))
  refine con_i (ty := .int) (cc := cX12_box) (nL := 3) (by decide) rfl (Nat.le_of_ble_eq_true rfl) ?_
  intro C hC hret
  change Go l0_B C 0 0 0 [(0, .ref 43), (1, .int x1)] [] h
  unfold f_X12_box at hf
  refine go_aload_n hC dX12_box_0 rfl 0 rfl ?_
  refine go_iload_n hC dX12_box_1 rfl 1 rfl ?_
  obtain ⟨r_1, hc, hf⟩ := bd_e1 hf
  refine go_callV hC (c_X12_noPlace x1 h r_1 hc) gX12_box_X12_noPlace rfl ⟨rfl, rfl⟩ 1 e_X12_noPlace ⟨Nat.le_of_ble_eq_true rfl, Nat.le_of_ble_eq_true rfl⟩ (b_43 _) rfl rfl (st := []) (st1 := [.int r_1]) rfl rfl (Nat.le_of_ble_eq_true rfl) ⟨Nat.zero_le _, Nat.zero_le _⟩ dX12_box_2 ?_
  refine go_if_eq hC dX12_box_5 (tgt := 10) (by decide) (fun c_4 => ?_) (fun c_4 => ?_)
  · replace hf := if_t c_4 hf
    refine go_aload_n hC dX12_box_10 rfl 0 rfl ?_
    refine go_geti hC (j := 2) (idx := 167) (nm := "boxAt") (ds := "I") (b_43 _) rfl rfl hn12 (Nat.le_of_ble_eq_true rfl) rfl rfl (List.mem_cons_of_mem _ (List.mem_append_left _ (List.mem_of_getElem? (i := 0) rfl))) (Or.inl rfl) dX12_box_11 ?_
    obtain ⟨x2_2, ex2_2, hf⟩ := lt_e hf
    refine go_topi ex2_2 ?_
    refine go_istore_n hC dX12_box_14 rfl (Nat.le_of_ble_eq_true rfl) rfl ?_
    refine go_aload_n hC dX12_box_15 rfl 1 rfl ?_
    refine go_iload_n hC dX12_box_16 rfl 2 rfl ?_
    obtain ⟨h_3, eh_3, hf⟩ := lt_e hf
    refine go_puti hC tyX12 (j := 2) (idx := 167) (nm := "boxAt") (ds := "I") (b_43 _) rfl rfl hn12 tyX12_ok nmX12 (Nat.le_of_ble_eq_true rfl) rfl rfl (List.mem_cons_of_mem _ (List.mem_append_left _ (List.mem_of_getElem? (i := 0) rfl))) (Or.inl rfl) rfl (tyX12_ok _ (Nat.le_of_ble_eq_true rfl)) dX12_box_17 ?_
    refine go_toph eh_3 ?_
    refine go_iload_n hC dX12_box_20 rfl 0 rfl ?_
    obtain ⟨rfl, rfl⟩ := so_2 hf
    exact hret _ _ rfl dX12_box_21
  · replace hf := if_f c_4 hf
    refine go_iconst hC dX12_box_8 k1_m1 ?_
    obtain ⟨rfl, rfl⟩ := so_2 hf
    exact hret _ _ rfl dX12_box_9
def f_X12_noPoint (x1 : Int32) (h : PH) : Option (Int32) :=
  bd_1 (f_X12_in x1.toInt64 0 (((h.1 43 19).toInt64) - 1) h) fun r_1 =>
  if r_1 = 0 then (
  some 1)
  else (
  some 0)
theorem e_X12_noPoint : yX12_noPoint.cls = RX12 ∧ yX12_noPoint.cls ≠ "java/lang/invoke/MethodHandle" ∧ yX12_noPoint.cls ≠ "java/lang/invoke/VarHandle" ∧ (parseMethodDescriptor yX12_noPoint.desc).map (fun d => d.parameters.length) = some 1 := by decide +kernel
set_option maxRecDepth 100000 in
set_option maxHeartbeats 4000000 in
theorem c_X12_noPoint (x1 : Int32) (h : PH) (r : Int32) (hf : f_X12_noPoint x1 h = some r) : Con yX12_noPoint wsX12_noPoint (rm_d 1) l0_B [.ref 43, .int x1] h (some (.int r)) h := by
  have hn12 : ∀ w ∈ wsX120, w ∈ wsX12_noPoint := (fun _ hw => (List.mem_cons_of_mem _ (List.mem_append_right _ hw)))
  refine con_i (ty := .boolean) (cc := cX12_noPoint) (nL := 2) (by decide) rfl (Nat.le_of_ble_eq_true rfl) ?_
  intro C hC hret
  change Go l0_B C 0 0 0 [(0, .ref 43), (1, .int x1)] [] h
  unfold f_X12_noPoint at hf
  refine go_iload_n hC dX12_noPoint_0 rfl 1 rfl ?_
  refine go_i2l hC dX12_noPoint_1 ?_
  refine go_lconst hC dX12_noPoint_2 (v := 0) rfl ?_
  refine go_aload_n hC dX12_noPoint_3 rfl 0 rfl ?_
  refine go_geti hC (j := 19) (idx := 170) (nm := "points") (ds := "I") (b_43 _) rfl rfl hn12 (Nat.le_of_ble_eq_true rfl) rfl rfl (List.mem_cons_of_mem _ (List.mem_append_left _ (List.mem_of_getElem? (i := 0) rfl))) (Or.inl rfl) dX12_noPoint_4 ?_
  refine go_i2l hC dX12_noPoint_7 ?_
  refine go_lconst hC dX12_noPoint_8 (v := 1) rfl ?_
  refine go_lsub hC dX12_noPoint_9 ?_
  obtain ⟨r_1, hc, hf⟩ := bd_e1 hf
  refine go_callS hC (c_X12_in x1.toInt64 0 (((h.1 43 19).toInt64) - 1) h r_1 hc) gX12_noPoint_X12_in rfl ⟨rfl, rfl⟩ 3 e_X12_in ⟨Nat.le_of_ble_eq_true rfl, Nat.le_of_ble_eq_true rfl⟩ rfl (st := []) (st1 := [.int r_1]) rfl rfl (Nat.le_of_ble_eq_true rfl) ⟨Nat.zero_le _, Nat.zero_le _⟩ dX12_noPoint_10 ?_
  refine go_if_ne hC dX12_noPoint_13 (tgt := 20) (by decide) (fun c_2 => ?_) (fun c_2 => ?_)
  · replace hf := if_f c_2 hf
    refine go_iconst hC dX12_noPoint_20 k1_0 ?_
    obtain rfl := so_1 hf
    exact hret _ _ (zo_n (Or.inl rfl)) dX12_noPoint_21
  · replace hf := if_t c_2 hf
    refine go_iconst hC dX12_noPoint_16 k1_1 ?_
    refine go_goto hC dX12_noPoint_17 (tgt := 21) (by decide) ?_
    obtain rfl := so_1 hf
    exact hret _ _ (zo_n (Or.inr rfl)) dX12_noPoint_21
def f_X12_point (x1 : Int32) (x2 : Int32) (x3 : Int32) (h : PH) : Option (Int32 × PH) :=
  bd_1 (f_X12_noPlace x1 h) fun r_1 =>
  if r_1 = 0 then (
  bd_1 (f_X12_in x2.toInt64 1 20 h) fun r_2 =>
  if r_2 = 0 then (
  some ((-2), h))
  else (
  bd_1 (f_X12_in x3.toInt64 0 5 h) fun r_3 =>
  if r_3 = 0 then (
  some ((-2), h))
  else (
  if (h.1 43 19) = 8 then (
  some ((-4), h))
  else (
  ga_i (h.1 43 19) 8 (
  lt_b (ph_i h 54 (h.1 43 19).toNatClampNeg x1) fun h_5 =>
  ga_i (h_5.1 43 19) 8 (
  lt_b (ph_i h_5 55 (h_5.1 43 19).toNatClampNeg x2) fun h_7 =>
  ga_i (h_7.1 43 19) 8 (
  lt_b (ph_i h_7 56 (h_7.1 43 19).toNatClampNeg x3) fun h_9 =>
  lt_b (ph_i h_9 43 19 ((h_9.1 43 19) + 1)) fun h_10 =>
  some ((h_10.1 43 19) - 1, h_10))))))))
  else (
  some ((-1), h))
theorem e_X12_point : yX12_point.cls = RX12 ∧ yX12_point.cls ≠ "java/lang/invoke/MethodHandle" ∧ yX12_point.cls ≠ "java/lang/invoke/VarHandle" ∧ (parseMethodDescriptor yX12_point.desc).map (fun d => d.parameters.length) = some 3 := by decide +kernel
set_option maxRecDepth 100000 in
set_option maxHeartbeats 4000000 in
theorem c_X12_point (x1 : Int32) (x2 : Int32) (x3 : Int32) (h : PH) (h2 : PH) (r : Int32) (hf : f_X12_point x1 x2 x3 h = some (r, h2)) : Con yX12_point wsX12_point (rm_d 2) l0_B [.ref 43, .int x1, .int x2, .int x3] h (some (.int r)) h2 := by
  have hn12 : ∀ w ∈ wsX120, w ∈ wsX12_point := (fun _ hw => (List.mem_cons_of_mem _ (List.mem_append_right _ hw)))
  refine con_i (ty := .int) (cc := cX12_point) (nL := 4) (by decide) rfl (Nat.le_of_ble_eq_true rfl) ?_
  intro C hC hret
  change Go l0_B C 0 0 0 [(0, .ref 43), (1, .int x1), (2, .int x2), (3, .int x3)] [] h
  unfold f_X12_point at hf
  refine go_aload_n hC dX12_point_0 rfl 0 rfl ?_
  refine go_iload_n hC dX12_point_1 rfl 1 rfl ?_
  obtain ⟨r_1, hc, hf⟩ := bd_e1 hf
  refine go_callV hC (c_X12_noPlace x1 h r_1 hc) gX12_point_X12_noPlace rfl ⟨rfl, rfl⟩ 1 e_X12_noPlace ⟨Nat.le_of_ble_eq_true rfl, Nat.le_of_ble_eq_true rfl⟩ (b_43 _) rfl rfl (st := []) (st1 := [.int r_1]) rfl rfl (Nat.le_of_ble_eq_true rfl) ⟨Nat.zero_le _, Nat.zero_le _⟩ dX12_point_2 ?_
  refine go_if_eq hC dX12_point_5 (tgt := 10) (by decide) (fun c_14 => ?_) (fun c_14 => ?_)
  · replace hf := if_t c_14 hf
    refine go_iload_n hC dX12_point_10 rfl 2 rfl ?_
    refine go_i2l hC dX12_point_11 ?_
    refine go_lconst hC dX12_point_12 (v := 1) rfl ?_
    refine go_ldc2 hC (v := 20) (List.mem_cons_of_mem _ (List.mem_append_left _ (List.mem_of_getElem? (i := 0) rfl))) dX12_point_13 ?_
    obtain ⟨r_2, hc, hf⟩ := bd_e1 hf
    refine go_callS hC (c_X12_in x2.toInt64 1 20 h r_2 hc) gX12_point_X12_in rfl ⟨rfl, rfl⟩ 3 e_X12_in ⟨Nat.le_of_ble_eq_true rfl, Nat.le_of_ble_eq_true rfl⟩ rfl (st := []) (st1 := [.int r_2]) rfl rfl (Nat.le_of_ble_eq_true rfl) ⟨Nat.zero_le _, Nat.zero_le _⟩ dX12_point_16 ?_
    refine go_if_eq hC dX12_point_19 (tgt := 34) (by decide) (fun c_13 => ?_) (fun c_13 => ?_)
    · replace hf := if_t c_13 hf
      refine go_bipush hC dX12_point_34 k8_m2 ?_
      obtain ⟨rfl, rfl⟩ := so_2 hf
      exact hret _ _ rfl dX12_point_36
    · replace hf := if_f c_13 hf
      refine go_iload_n hC dX12_point_22 rfl 3 rfl ?_
      refine go_i2l hC dX12_point_23 ?_
      refine go_lconst hC dX12_point_24 (v := 0) rfl ?_
      refine go_ldc2 hC (v := 5) (List.mem_cons_of_mem _ (List.mem_append_left _ (List.mem_of_getElem? (i := 1) rfl))) dX12_point_25 ?_
      obtain ⟨r_3, hc, hf⟩ := bd_e1 hf
      refine go_callS hC (c_X12_in x3.toInt64 0 5 h r_3 hc) gX12_point_X12_in rfl ⟨rfl, rfl⟩ 3 e_X12_in ⟨Nat.le_of_ble_eq_true rfl, Nat.le_of_ble_eq_true rfl⟩ rfl (st := []) (st1 := [.int r_3]) rfl rfl (Nat.le_of_ble_eq_true rfl) ⟨Nat.zero_le _, Nat.zero_le _⟩ dX12_point_28 ?_
      refine go_if_ne hC dX12_point_31 (tgt := 37) (by decide) (fun c_12 => ?_) (fun c_12 => ?_)
      · replace hf := if_f c_12 hf
        refine go_aload_n hC dX12_point_37 rfl 0 rfl ?_
        refine go_geti hC (j := 19) (idx := 170) (nm := "points") (ds := "I") (b_43 _) rfl rfl hn12 (Nat.le_of_ble_eq_true rfl) rfl rfl (List.mem_cons_of_mem _ (List.mem_append_left _ (List.mem_of_getElem? (i := 2) rfl))) (Or.inl rfl) dX12_point_38 ?_
        refine go_bipush hC dX12_point_41 k8_8 ?_
        refine go_icmp_ne hC dX12_point_43 (tgt := 49) (by decide) (fun c_11 => ?_) (fun c_11 => ?_)
        · replace hf := if_f c_11 hf
          refine go_aload_n hC dX12_point_49 rfl 0 rfl ?_
          refine go_getr hC (j := 20) (idx := 41) (nm := "placeOf") (ds := "[I") (b_43 _) rfl rfl hn12 (Nat.le_of_ble_eq_true rfl) rfl rfl (List.mem_cons_of_mem _ (List.mem_append_left _ (List.mem_of_getElem? (i := 3) rfl))) (Or.inl rfl) dX12_point_50 ?_
          refine go_aload_n hC dX12_point_53 rfl 0 rfl ?_
          refine go_geti hC (j := 19) (idx := 170) (nm := "points") (ds := "I") (b_43 _) rfl rfl hn12 (Nat.le_of_ble_eq_true rfl) rfl rfl (List.mem_cons_of_mem _ (List.mem_append_left _ (List.mem_of_getElem? (i := 2) rfl))) (Or.inl rfl) dX12_point_54 ?_
          refine go_iload_n hC dX12_point_57 rfl 1 rfl ?_
          obtain ⟨g_4, hf⟩ := ga_e hf
          obtain ⟨h_5, eh_5, hf⟩ := lt_e hf
          refine go_iast hC (b_54 _) g_4 dX12_point_58 ?_
          refine go_toph eh_5 ?_
          refine go_aload_n hC dX12_point_59 rfl 0 rfl ?_
          refine go_getr hC (j := 21) (idx := 44) (nm := "loadOf") (ds := "[I") (b_43 _) rfl rfl hn12 (Nat.le_of_ble_eq_true rfl) rfl rfl (List.mem_cons_of_mem _ (List.mem_append_left _ (List.mem_of_getElem? (i := 4) rfl))) (Or.inl rfl) dX12_point_60 ?_
          refine go_aload_n hC dX12_point_63 rfl 0 rfl ?_
          refine go_geti hC (j := 19) (idx := 170) (nm := "points") (ds := "I") (b_43 _) rfl rfl hn12 (Nat.le_of_ble_eq_true rfl) rfl rfl (List.mem_cons_of_mem _ (List.mem_append_left _ (List.mem_of_getElem? (i := 2) rfl))) (Or.inl rfl) dX12_point_64 ?_
          refine go_iload_n hC dX12_point_67 rfl 2 rfl ?_
          obtain ⟨g_6, hf⟩ := ga_e hf
          obtain ⟨h_7, eh_7, hf⟩ := lt_e hf
          refine go_iast hC (b_55 _) g_6 dX12_point_68 ?_
          refine go_toph eh_7 ?_
          refine go_aload_n hC dX12_point_69 rfl 0 rfl ?_
          refine go_getr hC (j := 22) (idx := 47) (nm := "roomOf") (ds := "[I") (b_43 _) rfl rfl hn12 (Nat.le_of_ble_eq_true rfl) rfl rfl (List.mem_cons_of_mem _ (List.mem_append_left _ (List.mem_of_getElem? (i := 5) rfl))) (Or.inl rfl) dX12_point_70 ?_
          refine go_aload_n hC dX12_point_73 rfl 0 rfl ?_
          refine go_geti hC (j := 19) (idx := 170) (nm := "points") (ds := "I") (b_43 _) rfl rfl hn12 (Nat.le_of_ble_eq_true rfl) rfl rfl (List.mem_cons_of_mem _ (List.mem_append_left _ (List.mem_of_getElem? (i := 2) rfl))) (Or.inl rfl) dX12_point_74 ?_
          refine go_iload_n hC dX12_point_77 rfl 3 rfl ?_
          obtain ⟨g_8, hf⟩ := ga_e hf
          obtain ⟨h_9, eh_9, hf⟩ := lt_e hf
          refine go_iast hC (b_56 _) g_8 dX12_point_78 ?_
          refine go_toph eh_9 ?_
          refine go_aload_n hC dX12_point_79 rfl 0 rfl ?_
          refine go_dup hC dX12_point_80 rfl ?_
          refine go_geti hC (j := 19) (idx := 170) (nm := "points") (ds := "I") (b_43 _) rfl rfl hn12 (Nat.le_of_ble_eq_true rfl) rfl rfl (List.mem_cons_of_mem _ (List.mem_append_left _ (List.mem_of_getElem? (i := 2) rfl))) (Or.inl rfl) dX12_point_81 ?_
          refine go_iconst hC dX12_point_84 k1_1 ?_
          refine go_iadd hC dX12_point_85 ?_
          obtain ⟨h_10, eh_10, hf⟩ := lt_e hf
          refine go_puti hC tyX12 (j := 19) (idx := 170) (nm := "points") (ds := "I") (b_43 _) rfl rfl hn12 tyX12_ok nmX12 (Nat.le_of_ble_eq_true rfl) rfl rfl (List.mem_cons_of_mem _ (List.mem_append_left _ (List.mem_of_getElem? (i := 2) rfl))) (Or.inl rfl) rfl (tyX12_ok _ (Nat.le_of_ble_eq_true rfl)) dX12_point_86 ?_
          refine go_toph eh_10 ?_
          refine go_aload_n hC dX12_point_89 rfl 0 rfl ?_
          refine go_geti hC (j := 19) (idx := 170) (nm := "points") (ds := "I") (b_43 _) rfl rfl hn12 (Nat.le_of_ble_eq_true rfl) rfl rfl (List.mem_cons_of_mem _ (List.mem_append_left _ (List.mem_of_getElem? (i := 2) rfl))) (Or.inl rfl) dX12_point_90 ?_
          refine go_iconst hC dX12_point_93 k1_1 ?_
          refine go_isub hC dX12_point_94 ?_
          obtain ⟨rfl, rfl⟩ := so_2 hf
          exact hret _ _ rfl dX12_point_95
        · replace hf := if_t c_11 hf
          refine go_bipush hC dX12_point_46 k8_m4 ?_
          obtain ⟨rfl, rfl⟩ := so_2 hf
          exact hret _ _ rfl dX12_point_48
      · replace hf := if_t c_12 hf
        refine go_bipush hC dX12_point_34 k8_m2 ?_
        obtain ⟨rfl, rfl⟩ := so_2 hf
        exact hret _ _ rfl dX12_point_36
  · replace hf := if_f c_14 hf
    refine go_iconst hC dX12_point_8 k1_m1 ?_
    obtain ⟨rfl, rfl⟩ := so_2 hf
    exact hret _ _ rfl dX12_point_9
def lb_X12_wayOf_12 (x1 : Int32) (x2 : Int32) (h : PH) (x3 : Int32) : Option ((Int32) ⊕ ((Int32) ⊕ (Int32))) :=
  ga_i x2 6 (
  if (h.1 60 x2.toNatClampNeg) ≤ x3 then (
  some (.inr (.inr x3)))
  else (
  ga_i x2 6 (
  if (h.1 57 x2.toNatClampNeg) = 0 then (
  some (.inr (.inr x3)))
  else (
  ga_i ((6 * x2) + x3) 36 (
  if (h.1 61 ((6 * x2) + x3).toNatClampNeg) = x1 then (
  some (.inr (.inl x2)))
  else (
  lt_b (x3 + 1) fun x3_11 =>
  some (.inl x3_11)))))))
def lb_X12_wayOf_2 (x1 : Int32) (h : PH) (x2 : Int32) : Option ((Int32) ⊕ ((Int32) ⊕ (Int32))) :=
  if (h.1 43 23) ≤ x2 then (
  some (.inr (.inr x2)))
  else (
  bd_1 (lp_f (fun s => lb_X12_wayOf_12 x1 x2 h s) fu_l 0) fun s_20 => sw_b s_20 (fun r_23 => some (.inr (.inl r_23))) fun e_21 =>
  lt_b (x2 + 1) fun x2_22 =>
  some (.inl x2_22))
def f_X12_wayOf (x1 : Int32) (h : PH) : Option (Int32) :=
  bd_1 (lp_f (fun s => lb_X12_wayOf_2 x1 h s) fu_l 0) fun s_25 => sw_b s_25 (fun r_27 => some r_27) fun e_26 =>
  some (-9)
set_option maxRecDepth 100000 in
set_option maxHeartbeats 4000000 in
theorem lw_X12_wayOf_12 {C : GC} (hC : Cx C cX12_wayOf 4 wsX12_wayOf RX12 (some .int) (rm_d 0)) (x1 : Int32) (x2 : Int32) (h : PH) : ∀ (n9 : Nat) (x3 : Int32) (y : (Int32) ⊕ (Int32)), lp_f (fun s => lb_X12_wayOf_12 x1 x2 h s) n9 x3 = some y → ∀ (hk : match y with | .inl r => (∀ (pc : Nat) (L : List (Nat × Value)), narrow .int (.int r) = .int r → decode cX12_wayOf pc = .ok (.ireturn, 1) → Go l0_B C 0 0 pc L [.int r] h) | .inr e => Go l0_B C 0 0 54 [(0, .ref 43), (1, .int x1), (2, .int x2)] [] h), Go l0_B C 0 0 12 [(0, .ref 43), (1, .int x1), (2, .int x2), (3, .int x3)] [] h := by
  have hn12 : ∀ w ∈ wsX120, w ∈ wsX12_wayOf := (fun _ hw => (List.mem_cons_of_mem _ (List.mem_append_right _ hw)))
  intro n9
  induction n9 with
  | zero =>
    intro x3 y hlp
    cases hlp
  | succ n9 ih =>
    intro x3 y hlp hk
    obtain ⟨k9, z, hk9, hf, hy⟩ := lp_e hlp
    cases hk9
    replace hf : lb_X12_wayOf_12 x1 x2 h x3 = some z := hf
    unfold lb_X12_wayOf_12 at hf
    refine go_iload_n hC dX12_wayOf_12 rfl 3 rfl ?_
    refine go_aload_n hC dX12_wayOf_13 rfl 0 rfl ?_
    refine go_getr hC (j := 27) (idx := 59) (nm := "wayMany") (ds := "[I") (b_43 _) rfl rfl hn12 (Nat.le_of_ble_eq_true rfl) rfl rfl (List.mem_cons_of_mem _ (List.mem_append_left _ (List.mem_of_getElem? (i := 1) rfl))) (Or.inl rfl) dX12_wayOf_14 ?_
    refine go_iload_n hC dX12_wayOf_17 rfl 2 rfl ?_
    obtain ⟨g_8, hf⟩ := ga_e hf
    refine go_iald hC (b_60 _) g_8 dX12_wayOf_18 ?_
    refine go_icmp_ge hC dX12_wayOf_19 (tgt := 54) (by decide) (fun c_14 => ?_) (fun c_14 => ?_)
    · replace hf := if_t c_14 hf
      obtain rfl := so_1 hf
      obtain rfl := lp_x hy
      refine go_sub [0, 1, 2] rfl ?_
      exact hk
    · replace hf := if_f c_14 hf
      refine go_aload_n hC dX12_wayOf_22 rfl 0 rfl ?_
      refine go_getr hC (j := 24) (idx := 50) (nm := "isHere") (ds := "[Z") (b_43 _) rfl rfl hn12 (Nat.le_of_ble_eq_true rfl) rfl rfl (List.mem_cons_of_mem _ (List.mem_append_left _ (List.mem_of_getElem? (i := 2) rfl))) (Or.inl rfl) dX12_wayOf_23 ?_
      refine go_iload_n hC dX12_wayOf_26 rfl 2 rfl ?_
      obtain ⟨g_9, hf⟩ := ga_e hf
      refine go_zald hC (b_57 _) g_9 dX12_wayOf_27 ?_
      refine go_if_eq hC dX12_wayOf_28 (tgt := 54) (by decide) (fun c_13 => ?_) (fun c_13 => ?_)
      · replace hf := if_t c_13 hf
        obtain rfl := so_1 hf
        obtain rfl := lp_x hy
        refine go_sub [0, 1, 2] rfl ?_
        exact hk
      · replace hf := if_f c_13 hf
        refine go_aload_n hC dX12_wayOf_31 rfl 0 rfl ?_
        refine go_getr hC (j := 28) (idx := 62) (nm := "wayPoint") (ds := "[I") (b_43 _) rfl rfl hn12 (Nat.le_of_ble_eq_true rfl) rfl rfl (List.mem_cons_of_mem _ (List.mem_append_left _ (List.mem_of_getElem? (i := 3) rfl))) (Or.inl rfl) dX12_wayOf_32 ?_
        refine go_bipush hC dX12_wayOf_35 k8_6 ?_
        refine go_iload_n hC dX12_wayOf_37 rfl 2 rfl ?_
        refine go_imul hC dX12_wayOf_38 ?_
        refine go_iload_n hC dX12_wayOf_39 rfl 3 rfl ?_
        refine go_iadd hC dX12_wayOf_40 ?_
        obtain ⟨g_10, hf⟩ := ga_e hf
        refine go_iald hC (b_61 _) g_10 dX12_wayOf_41 ?_
        refine go_iload_n hC dX12_wayOf_42 rfl 1 rfl ?_
        refine go_icmp_ne hC dX12_wayOf_43 (tgt := 48) (by decide) (fun c_12 => ?_) (fun c_12 => ?_)
        · replace hf := if_f c_12 hf
          obtain ⟨x3_11, ex3_11, hf⟩ := lt_e hf
          refine go_iinc hC dX12_wayOf_48 3 rfl k1_1 ex3_11 (Nat.le_of_ble_eq_true rfl) rfl ?_
          refine go_goto hC dX12_wayOf_51 (tgt := 12) (by decide) ?_
          obtain rfl := so_1 hf
          refine go_sub [1, 2, 3, 0] rfl ?_
          exact ih x3_11 _ (lp_c hy) hk
        · replace hf := if_t c_12 hf
          refine go_iload_n hC dX12_wayOf_46 rfl 2 rfl ?_
          obtain rfl := so_1 hf
          obtain rfl := lp_x hy
          exact hk _ _ rfl dX12_wayOf_47
set_option maxRecDepth 100000 in
set_option maxHeartbeats 4000000 in
theorem lw_X12_wayOf_2 {C : GC} (hC : Cx C cX12_wayOf 4 wsX12_wayOf RX12 (some .int) (rm_d 0)) (x1 : Int32) (h : PH) : ∀ (n9 : Nat) (x2 : Int32) (y : (Int32) ⊕ (Int32)), lp_f (fun s => lb_X12_wayOf_2 x1 h s) n9 x2 = some y → ∀ (hk : match y with | .inl r => (∀ (pc : Nat) (L : List (Nat × Value)), narrow .int (.int r) = .int r → decode cX12_wayOf pc = .ok (.ireturn, 1) → Go l0_B C 0 0 pc L [.int r] h) | .inr e => Go l0_B C 0 0 60 [] [] h), Go l0_B C 0 0 2 [(0, .ref 43), (1, .int x1), (2, .int x2)] [] h := by
  have hn12 : ∀ w ∈ wsX120, w ∈ wsX12_wayOf := (fun _ hw => (List.mem_cons_of_mem _ (List.mem_append_right _ hw)))
  intro n9
  induction n9 with
  | zero =>
    intro x2 y hlp
    cases hlp
  | succ n9 ih =>
    intro x2 y hlp hk
    obtain ⟨k9, z, hk9, hf, hy⟩ := lp_e hlp
    cases hk9
    replace hf : lb_X12_wayOf_2 x1 h x2 = some z := hf
    unfold lb_X12_wayOf_2 at hf
    refine go_iload_n hC dX12_wayOf_2 rfl 2 rfl ?_
    refine go_aload_n hC dX12_wayOf_3 rfl 0 rfl ?_
    refine go_geti hC (j := 23) (idx := 173) (nm := "ways") (ds := "I") (b_43 _) rfl rfl hn12 (Nat.le_of_ble_eq_true rfl) rfl rfl (List.mem_cons_of_mem _ (List.mem_append_left _ (List.mem_of_getElem? (i := 0) rfl))) (Or.inl rfl) dX12_wayOf_4 ?_
    refine go_icmp_ge hC dX12_wayOf_7 (tgt := 60) (by decide) (fun c_24 => ?_) (fun c_24 => ?_)
    · replace hf := if_t c_24 hf
      obtain rfl := so_1 hf
      obtain rfl := lp_x hy
      refine go_sub [] rfl ?_
      exact hk
    · replace hf := if_f c_24 hf
      refine go_iconst hC dX12_wayOf_10 k1_0 ?_
      refine go_istore_n hC dX12_wayOf_11 rfl (Nat.le_of_ble_eq_true rfl) rfl ?_
      obtain ⟨s_20, hl, hf⟩ := bd_e1 hf
      refine go_sub [1, 2, 3, 0] rfl ?_
      refine lw_X12_wayOf_12 hC x1 x2 h _ 0 s_20 hl ?_
      rcases s_20 with r_23 | e_21
      · replace hf : some (Sum.inr (Sum.inl r_23)) = some _ := hf
        cases hf
        cases lp_x hy
        exact hk
      · replace hf := sw_r hf
        obtain ⟨x2_22, ex2_22, hf⟩ := lt_e hf
        refine go_iinc hC dX12_wayOf_54 2 rfl k1_1 ex2_22 (Nat.le_of_ble_eq_true rfl) rfl ?_
        refine go_goto hC dX12_wayOf_57 (tgt := 2) (by decide) ?_
        obtain rfl := so_1 hf
        refine go_sub [1, 2, 0] rfl ?_
        exact ih x2_22 _ (lp_c hy) hk
theorem e_X12_wayOf : yX12_wayOf.cls = RX12 ∧ yX12_wayOf.cls ≠ "java/lang/invoke/MethodHandle" ∧ yX12_wayOf.cls ≠ "java/lang/invoke/VarHandle" ∧ (parseMethodDescriptor yX12_wayOf.desc).map (fun d => d.parameters.length) = some 1 := by decide +kernel
set_option maxRecDepth 100000 in
set_option maxHeartbeats 4000000 in
theorem c_X12_wayOf (x1 : Int32) (h : PH) (r : Int32) (hf : f_X12_wayOf x1 h = some r) : Con yX12_wayOf wsX12_wayOf (rm_d 0) l0_B [.ref 43, .int x1] h (some (.int r)) h := by
  have hn12 : ∀ w ∈ wsX120, w ∈ wsX12_wayOf := (fun _ hw => (List.mem_cons_of_mem _ (List.mem_append_right _ hw)))
  refine con_i (ty := .int) (cc := cX12_wayOf) (nL := 4) (by decide) rfl (Nat.le_of_ble_eq_true rfl) ?_
  intro C hC hret
  change Go l0_B C 0 0 0 [(0, .ref 43), (1, .int x1)] [] h
  unfold f_X12_wayOf at hf
  refine go_iconst hC dX12_wayOf_0 k1_0 ?_
  refine go_istore_n hC dX12_wayOf_1 rfl (Nat.le_of_ble_eq_true rfl) rfl ?_
  obtain ⟨s_25, hl, hf⟩ := bd_e1 hf
  refine go_sub [1, 2, 0] rfl ?_
  refine lw_X12_wayOf_2 hC x1 h _ 0 s_25 hl ?_
  rcases s_25 with r_27 | e_26
  · replace hf : some r_27 = some _ := hf
    cases hf
    exact hret
  · replace hf := sw_r hf
    refine go_bipush hC dX12_wayOf_60 k8_m9 ?_
    obtain rfl := so_1 hf
    exact hret _ _ rfl dX12_wayOf_62
def f_X12_ofPoint (x1 : Int32) (x2 : Int32) (h : PH) : Option (Int32) :=
  bd_1 (f_X12_noPoint x1 h) fun r_1 =>
  if r_1 = 0 then (
  if x2 = 0 then (
  ga_i x1 8 (
  some (h.1 54 x1.toNatClampNeg)))
  else (
  if x2 = 1 then (
  ga_i x1 8 (
  some (h.1 55 x1.toNatClampNeg)))
  else (
  if x2 = 2 then (
  ga_i x1 8 (
  some (h.1 56 x1.toNatClampNeg)))
  else (
  if x2 = 3 then (
  bd_1 (f_X12_wayOf x1 h) fun r_2 =>
  some r_2)
  else (
  some (-2))))))
  else (
  some (-1))
theorem e_X12_ofPoint : yX12_ofPoint.cls = RX12 ∧ yX12_ofPoint.cls ≠ "java/lang/invoke/MethodHandle" ∧ yX12_ofPoint.cls ≠ "java/lang/invoke/VarHandle" ∧ (parseMethodDescriptor yX12_ofPoint.desc).map (fun d => d.parameters.length) = some 2 := by decide +kernel
set_option maxRecDepth 100000 in
set_option maxHeartbeats 4000000 in
theorem c_X12_ofPoint (x1 : Int32) (x2 : Int32) (h : PH) (r : Int32) (hf : f_X12_ofPoint x1 x2 h = some r) : Con yX12_ofPoint wsX12_ofPoint (rm_d 2) l0_B [.ref 43, .int x1, .int x2] h (some (.int r)) h := by
  have hn12 : ∀ w ∈ wsX120, w ∈ wsX12_ofPoint := (fun _ hw => (List.mem_cons_of_mem _ (List.mem_append_right _ hw)))
  refine con_i (ty := .int) (cc := cX12_ofPoint) (nL := 3) (by decide) rfl (Nat.le_of_ble_eq_true rfl) ?_
  intro C hC hret
  change Go l0_B C 0 0 0 [(0, .ref 43), (1, .int x1), (2, .int x2)] [] h
  unfold f_X12_ofPoint at hf
  refine go_aload_n hC dX12_ofPoint_0 rfl 0 rfl ?_
  refine go_iload_n hC dX12_ofPoint_1 rfl 1 rfl ?_
  obtain ⟨r_1, hc, hf⟩ := bd_e1 hf
  refine go_callV hC (c_X12_noPoint x1 h r_1 hc) gX12_ofPoint_X12_noPoint rfl ⟨rfl, rfl⟩ 1 e_X12_noPoint ⟨Nat.le_of_ble_eq_true rfl, Nat.le_of_ble_eq_true rfl⟩ (b_43 _) rfl rfl (st := []) (st1 := [.int r_1]) rfl rfl (Nat.le_of_ble_eq_true rfl) ⟨Nat.zero_le _, Nat.zero_le _⟩ dX12_ofPoint_2 ?_
  refine go_if_eq hC dX12_ofPoint_5 (tgt := 10) (by decide) (fun c_10 => ?_) (fun c_10 => ?_)
  · replace hf := if_t c_10 hf
    refine go_iload_n hC dX12_ofPoint_10 rfl 2 rfl ?_
    refine go_if_ne hC dX12_ofPoint_11 (tgt := 23) (by decide) (fun c_9 => ?_) (fun c_9 => ?_)
    · replace hf := if_f c_9 hf
      refine go_iload_n hC dX12_ofPoint_23 rfl 2 rfl ?_
      refine go_iconst hC dX12_ofPoint_24 k1_1 ?_
      refine go_icmp_ne hC dX12_ofPoint_25 (tgt := 37) (by decide) (fun c_7 => ?_) (fun c_7 => ?_)
      · replace hf := if_f c_7 hf
        refine go_iload_n hC dX12_ofPoint_37 rfl 2 rfl ?_
        refine go_iconst hC dX12_ofPoint_38 k1_2 ?_
        refine go_icmp_ne hC dX12_ofPoint_39 (tgt := 51) (by decide) (fun c_5 => ?_) (fun c_5 => ?_)
        · replace hf := if_f c_5 hf
          refine go_iload_n hC dX12_ofPoint_51 rfl 2 rfl ?_
          refine go_iconst hC dX12_ofPoint_52 k1_3 ?_
          refine go_icmp_ne hC dX12_ofPoint_53 (tgt := 64) (by decide) (fun c_3 => ?_) (fun c_3 => ?_)
          · replace hf := if_f c_3 hf
            refine go_bipush hC dX12_ofPoint_64 k8_m2 ?_
            obtain rfl := so_1 hf
            exact hret _ _ rfl dX12_ofPoint_66
          · replace hf := if_t c_3 hf
            refine go_aload_n hC dX12_ofPoint_56 rfl 0 rfl ?_
            refine go_iload_n hC dX12_ofPoint_57 rfl 1 rfl ?_
            obtain ⟨r_2, hc, hf⟩ := bd_e1 hf
            refine go_callV hC (c_X12_wayOf x1 h r_2 hc) gX12_ofPoint_X12_wayOf rfl ⟨rfl, rfl⟩ 1 e_X12_wayOf ⟨Nat.le_of_ble_eq_true rfl, Nat.le_of_ble_eq_true rfl⟩ (b_43 _) rfl rfl (st := []) (st1 := [.int r_2]) rfl rfl (Nat.le_of_ble_eq_true rfl) ⟨Nat.zero_le _, Nat.zero_le _⟩ dX12_ofPoint_58 ?_
            refine go_goto hC dX12_ofPoint_61 (tgt := 66) (by decide) ?_
            obtain rfl := so_1 hf
            exact hret _ _ rfl dX12_ofPoint_66
        · replace hf := if_t c_5 hf
          refine go_aload_n hC dX12_ofPoint_42 rfl 0 rfl ?_
          refine go_getr hC (j := 22) (idx := 47) (nm := "roomOf") (ds := "[I") (b_43 _) rfl rfl hn12 (Nat.le_of_ble_eq_true rfl) rfl rfl (List.mem_cons_of_mem _ (List.mem_append_left _ (List.mem_of_getElem? (i := 2) rfl))) (Or.inl rfl) dX12_ofPoint_43 ?_
          refine go_iload_n hC dX12_ofPoint_46 rfl 1 rfl ?_
          obtain ⟨g_4, hf⟩ := ga_e hf
          refine go_iald hC (b_56 _) g_4 dX12_ofPoint_47 ?_
          refine go_goto hC dX12_ofPoint_48 (tgt := 66) (by decide) ?_
          obtain rfl := so_1 hf
          exact hret _ _ rfl dX12_ofPoint_66
      · replace hf := if_t c_7 hf
        refine go_aload_n hC dX12_ofPoint_28 rfl 0 rfl ?_
        refine go_getr hC (j := 21) (idx := 44) (nm := "loadOf") (ds := "[I") (b_43 _) rfl rfl hn12 (Nat.le_of_ble_eq_true rfl) rfl rfl (List.mem_cons_of_mem _ (List.mem_append_left _ (List.mem_of_getElem? (i := 1) rfl))) (Or.inl rfl) dX12_ofPoint_29 ?_
        refine go_iload_n hC dX12_ofPoint_32 rfl 1 rfl ?_
        obtain ⟨g_6, hf⟩ := ga_e hf
        refine go_iald hC (b_55 _) g_6 dX12_ofPoint_33 ?_
        refine go_goto hC dX12_ofPoint_34 (tgt := 66) (by decide) ?_
        obtain rfl := so_1 hf
        exact hret _ _ rfl dX12_ofPoint_66
    · replace hf := if_t c_9 hf
      refine go_aload_n hC dX12_ofPoint_14 rfl 0 rfl ?_
      refine go_getr hC (j := 20) (idx := 41) (nm := "placeOf") (ds := "[I") (b_43 _) rfl rfl hn12 (Nat.le_of_ble_eq_true rfl) rfl rfl (List.mem_cons_of_mem _ (List.mem_append_left _ (List.mem_of_getElem? (i := 0) rfl))) (Or.inl rfl) dX12_ofPoint_15 ?_
      refine go_iload_n hC dX12_ofPoint_18 rfl 1 rfl ?_
      obtain ⟨g_8, hf⟩ := ga_e hf
      refine go_iald hC (b_54 _) g_8 dX12_ofPoint_19 ?_
      refine go_goto hC dX12_ofPoint_20 (tgt := 66) (by decide) ?_
      obtain rfl := so_1 hf
      exact hret _ _ rfl dX12_ofPoint_66
  · replace hf := if_f c_10 hf
    refine go_iconst hC dX12_ofPoint_8 k1_m1 ?_
    obtain rfl := so_1 hf
    exact hret _ _ rfl dX12_ofPoint_9
def f_X12_load (x1 : Int32) (x2 : Int32) (h : PH) : Option (Int32 × PH) :=
  bd_1 (f_X12_noPoint x1 h) fun r_1 =>
  if r_1 = 0 then (
  bd_1 (f_X12_in x2.toInt64 1 20 h) fun r_2 =>
  if r_2 = 0 then (
  some ((-2), h))
  else (
  ga_i x1 8 (
  lt_b (h.1 55 x1.toNatClampNeg) fun x3_4 =>
  ga_i x1 8 (
  lt_b (ph_i h 55 x1.toNatClampNeg x2) fun h_6 =>
  some (x3_4, h_6)))))
  else (
  some ((-1), h))
theorem e_X12_load : yX12_load.cls = RX12 ∧ yX12_load.cls ≠ "java/lang/invoke/MethodHandle" ∧ yX12_load.cls ≠ "java/lang/invoke/VarHandle" ∧ (parseMethodDescriptor yX12_load.desc).map (fun d => d.parameters.length) = some 2 := by decide +kernel
set_option maxRecDepth 100000 in
set_option maxHeartbeats 4000000 in
theorem c_X12_load (x1 : Int32) (x2 : Int32) (h : PH) (h2 : PH) (r : Int32) (hf : f_X12_load x1 x2 h = some (r, h2)) : Con yX12_load wsX12_load (rm_d 2) l0_B [.ref 43, .int x1, .int x2] h (some (.int r)) h2 := by
  have hn12 : ∀ w ∈ wsX120, w ∈ wsX12_load := (fun _ hw => (List.mem_cons_of_mem _ (List.mem_append_right _ hw)))
  refine con_i (ty := .int) (cc := cX12_load) (nL := 4) (by decide) rfl (Nat.le_of_ble_eq_true rfl) ?_
  intro C hC hret
  change Go l0_B C 0 0 0 [(0, .ref 43), (1, .int x1), (2, .int x2)] [] h
  unfold f_X12_load at hf
  refine go_aload_n hC dX12_load_0 rfl 0 rfl ?_
  refine go_iload_n hC dX12_load_1 rfl 1 rfl ?_
  obtain ⟨r_1, hc, hf⟩ := bd_e1 hf
  refine go_callV hC (c_X12_noPoint x1 h r_1 hc) gX12_load_X12_noPoint rfl ⟨rfl, rfl⟩ 1 e_X12_noPoint ⟨Nat.le_of_ble_eq_true rfl, Nat.le_of_ble_eq_true rfl⟩ (b_43 _) rfl rfl (st := []) (st1 := [.int r_1]) rfl rfl (Nat.le_of_ble_eq_true rfl) ⟨Nat.zero_le _, Nat.zero_le _⟩ dX12_load_2 ?_
  refine go_if_eq hC dX12_load_5 (tgt := 10) (by decide) (fun c_8 => ?_) (fun c_8 => ?_)
  · replace hf := if_t c_8 hf
    refine go_iload_n hC dX12_load_10 rfl 2 rfl ?_
    refine go_i2l hC dX12_load_11 ?_
    refine go_lconst hC dX12_load_12 (v := 1) rfl ?_
    refine go_ldc2 hC (v := 20) (List.mem_cons_of_mem _ (List.mem_append_left _ (List.mem_of_getElem? (i := 0) rfl))) dX12_load_13 ?_
    obtain ⟨r_2, hc, hf⟩ := bd_e1 hf
    refine go_callS hC (c_X12_in x2.toInt64 1 20 h r_2 hc) gX12_load_X12_in rfl ⟨rfl, rfl⟩ 3 e_X12_in ⟨Nat.le_of_ble_eq_true rfl, Nat.le_of_ble_eq_true rfl⟩ rfl (st := []) (st1 := [.int r_2]) rfl rfl (Nat.le_of_ble_eq_true rfl) ⟨Nat.zero_le _, Nat.zero_le _⟩ dX12_load_16 ?_
    refine go_if_ne hC dX12_load_19 (tgt := 25) (by decide) (fun c_7 => ?_) (fun c_7 => ?_)
    · replace hf := if_f c_7 hf
      refine go_aload_n hC dX12_load_25 rfl 0 rfl ?_
      refine go_getr hC (j := 21) (idx := 44) (nm := "loadOf") (ds := "[I") (b_43 _) rfl rfl hn12 (Nat.le_of_ble_eq_true rfl) rfl rfl (List.mem_cons_of_mem _ (List.mem_append_left _ (List.mem_of_getElem? (i := 1) rfl))) (Or.inl rfl) dX12_load_26 ?_
      refine go_iload_n hC dX12_load_29 rfl 1 rfl ?_
      obtain ⟨g_3, hf⟩ := ga_e hf
      refine go_iald hC (b_55 _) g_3 dX12_load_30 ?_
      obtain ⟨x3_4, ex3_4, hf⟩ := lt_e hf
      refine go_topi ex3_4 ?_
      refine go_istore_n hC dX12_load_31 rfl (Nat.le_of_ble_eq_true rfl) rfl ?_
      refine go_aload_n hC dX12_load_32 rfl 1 rfl ?_
      refine go_getr hC (j := 21) (idx := 44) (nm := "loadOf") (ds := "[I") (b_43 _) rfl rfl hn12 (Nat.le_of_ble_eq_true rfl) rfl rfl (List.mem_cons_of_mem _ (List.mem_append_left _ (List.mem_of_getElem? (i := 1) rfl))) (Or.inl rfl) dX12_load_33 ?_
      refine go_iload_n hC dX12_load_36 rfl 2 rfl ?_
      refine go_iload_n hC dX12_load_37 rfl 3 rfl ?_
      obtain ⟨g_5, hf⟩ := ga_e hf
      obtain ⟨h_6, eh_6, hf⟩ := lt_e hf
      refine go_iast hC (b_55 _) g_5 dX12_load_38 ?_
      refine go_toph eh_6 ?_
      refine go_iload_n hC dX12_load_39 rfl 0 rfl ?_
      obtain ⟨rfl, rfl⟩ := so_2 hf
      exact hret _ _ rfl dX12_load_40
    · replace hf := if_t c_7 hf
      refine go_bipush hC dX12_load_22 k8_m2 ?_
      obtain ⟨rfl, rfl⟩ := so_2 hf
      exact hret _ _ rfl dX12_load_24
  · replace hf := if_f c_8 hf
    refine go_iconst hC dX12_load_8 k1_m1 ?_
    obtain ⟨rfl, rfl⟩ := so_2 hf
    exact hret _ _ rfl dX12_load_9
def f_X12_noWay (x1 : Int32) (h : PH) : Option (Int32) :=
  bd_1 (f_X12_in x1.toInt64 0 (((h.1 43 23).toInt64) - 1) h) fun r_1 =>
  if r_1 = 0 then (
  some 1)
  else (
  ga_i x1 6 (
  if (h.1 57 x1.toNatClampNeg) = 0 then (
  some 1)
  else (
  some 0)))
theorem e_X12_noWay : yX12_noWay.cls = RX12 ∧ yX12_noWay.cls ≠ "java/lang/invoke/MethodHandle" ∧ yX12_noWay.cls ≠ "java/lang/invoke/VarHandle" ∧ (parseMethodDescriptor yX12_noWay.desc).map (fun d => d.parameters.length) = some 1 := by decide +kernel
set_option maxRecDepth 100000 in
set_option maxHeartbeats 4000000 in
theorem c_X12_noWay (x1 : Int32) (h : PH) (r : Int32) (hf : f_X12_noWay x1 h = some r) : Con yX12_noWay wsX12_noWay (rm_d 1) l0_B [.ref 43, .int x1] h (some (.int r)) h := by
  have hn12 : ∀ w ∈ wsX120, w ∈ wsX12_noWay := (fun _ hw => (List.mem_cons_of_mem _ (List.mem_append_right _ hw)))
  refine con_i (ty := .boolean) (cc := cX12_noWay) (nL := 2) (by decide) rfl (Nat.le_of_ble_eq_true rfl) ?_
  intro C hC hret
  change Go l0_B C 0 0 0 [(0, .ref 43), (1, .int x1)] [] h
  unfold f_X12_noWay at hf
  refine go_iload_n hC dX12_noWay_0 rfl 1 rfl ?_
  refine go_i2l hC dX12_noWay_1 ?_
  refine go_lconst hC dX12_noWay_2 (v := 0) rfl ?_
  refine go_aload_n hC dX12_noWay_3 rfl 0 rfl ?_
  refine go_geti hC (j := 23) (idx := 173) (nm := "ways") (ds := "I") (b_43 _) rfl rfl hn12 (Nat.le_of_ble_eq_true rfl) rfl rfl (List.mem_cons_of_mem _ (List.mem_append_left _ (List.mem_of_getElem? (i := 0) rfl))) (Or.inl rfl) dX12_noWay_4 ?_
  refine go_i2l hC dX12_noWay_7 ?_
  refine go_lconst hC dX12_noWay_8 (v := 1) rfl ?_
  refine go_lsub hC dX12_noWay_9 ?_
  obtain ⟨r_1, hc, hf⟩ := bd_e1 hf
  refine go_callS hC (c_X12_in x1.toInt64 0 (((h.1 43 23).toInt64) - 1) h r_1 hc) gX12_noWay_X12_in rfl ⟨rfl, rfl⟩ 3 e_X12_in ⟨Nat.le_of_ble_eq_true rfl, Nat.le_of_ble_eq_true rfl⟩ rfl (st := []) (st1 := [.int r_1]) rfl rfl (Nat.le_of_ble_eq_true rfl) ⟨Nat.zero_le _, Nat.zero_le _⟩ dX12_noWay_10 ?_
  refine go_if_eq hC dX12_noWay_13 (tgt := 25) (by decide) (fun c_4 => ?_) (fun c_4 => ?_)
  · replace hf := if_t c_4 hf
    refine go_iconst hC dX12_noWay_25 k1_1 ?_
    refine go_goto hC dX12_noWay_26 (tgt := 30) (by decide) ?_
    obtain rfl := so_1 hf
    exact hret _ _ (zo_n (Or.inr rfl)) dX12_noWay_30
  · replace hf := if_f c_4 hf
    refine go_aload_n hC dX12_noWay_16 rfl 0 rfl ?_
    refine go_getr hC (j := 24) (idx := 50) (nm := "isHere") (ds := "[Z") (b_43 _) rfl rfl hn12 (Nat.le_of_ble_eq_true rfl) rfl rfl (List.mem_cons_of_mem _ (List.mem_append_left _ (List.mem_of_getElem? (i := 1) rfl))) (Or.inl rfl) dX12_noWay_17 ?_
    refine go_iload_n hC dX12_noWay_20 rfl 1 rfl ?_
    obtain ⟨g_2, hf⟩ := ga_e hf
    refine go_zald hC (b_57 _) g_2 dX12_noWay_21 ?_
    refine go_if_ne hC dX12_noWay_22 (tgt := 29) (by decide) (fun c_3 => ?_) (fun c_3 => ?_)
    · replace hf := if_f c_3 hf
      refine go_iconst hC dX12_noWay_29 k1_0 ?_
      obtain rfl := so_1 hf
      exact hret _ _ (zo_n (Or.inl rfl)) dX12_noWay_30
    · replace hf := if_t c_3 hf
      refine go_iconst hC dX12_noWay_25 k1_1 ?_
      refine go_goto hC dX12_noWay_26 (tgt := 30) (by decide) ?_
      obtain rfl := so_1 hf
      exact hret _ _ (zo_n (Or.inr rfl)) dX12_noWay_30
def lb_X12_way_112 (x1 : Int32) (x2 : Int32) (x6 : Int32) (x8 : Int32) (x9 : Int32) (x10 : Int32) (x11 : Int32) (h : PH) : Option ((Int32 × Int32 × Int32 × PH) ⊕ ((Int32 × PH) ⊕ (Int32 × Int32 × Int32 × PH))) :=
  if x6 ≤ x11 then (
  some (.inr (.inr (x9, x10, x11, h))))
  else (
  ga_i (x8 + x11) 400 (
  lt_b (h.1 69 (x8 + x11).toNatClampNeg) fun x12_34 =>
  bd_1 (f_X12_noPoint x12_34 h) fun r_35 =>
  if r_35 = 0 then (
  if x10 = 0 then (
  lt_b (x9 ||| ((1 : Int32) <<< (x12_34 &&& 31))) fun x9_36 =>
  lt_b (x11 + 1) fun x11_37 =>
  some (.inl (x9_36, 0, x11_37, h)))
  else (
  bd_1 (f_X12_hasBit x9 x12_34 h) fun r_38 =>
  if r_38 = 0 then (
  bd_1 (f_X12_wayOf x12_34 h) fun r_41 =>
  if 0 ≤ r_41 then (
  lt_b (x9 ||| ((1 : Int32) <<< (x12_34 &&& 31))) fun x9_42 =>
  lt_b (x11 + 1) fun x11_43 =>
  some (.inl (x9_42, 0, x11_43, h)))
  else (
  lt_b (x9 ||| ((1 : Int32) <<< (x12_34 &&& 31))) fun x9_44 =>
  lt_b (x11 + 1) fun x11_45 =>
  some (.inl (x9_44, 1, x11_45, h))))
  else (
  lt_b (x9 ||| ((1 : Int32) <<< (x12_34 &&& 31))) fun x9_39 =>
  lt_b (x11 + 1) fun x11_40 =>
  some (.inl (x9_39, 0, x11_40, h)))))
  else (
  bd_2 (f_X12_refused (-1) h) fun r_49 h_50 =>
  some (.inr (.inl ((r_49, h_50)))))))
def lb_X12_way_264 (x6 : Int32) (x8 : Int32) (x11 : Int32) (h : PH) : Option ((Int32 × PH) ⊕ (Int32 × PH)) :=
  if x6 ≤ x11 then (
  some (.inr (x11, h)))
  else (
  ga_i (x8 + x11) 400 (
  ga_i ((6 * (h.1 43 23)) + x11) 36 (
  lt_b (ph_i h 61 ((6 * (h.1 43 23)) + x11).toNatClampNeg (h.1 69 (x8 + x11).toNatClampNeg)) fun h_70 =>
  lt_b (x11 + 1) fun x11_71 =>
  some (.inl (x11_71, h_70)))))
def f_X12_way (x1 : Int32) (x2 : Int32) (x3 : Int32) (x4 : Int32) (x5 : Int32) (x6 : Int32) (h : PH) : Option (Int32 × PH) :=
  bd_1 (f_X12_noSheet x3 h) fun r_1 =>
  if r_1 = 0 then (
  bd_1 (f_X12_in x1.toInt64 0 2 h) fun r_2 =>
  if r_2 = 0 then (
  bd_2 (f_X12_refused (-2) h) fun r_3 h_4 =>
  some (r_3, h_4))
  else (
  bd_1 (f_X12_in x2.toInt64 1 99 h) fun r_5 =>
  if r_5 = 0 then (
  bd_2 (f_X12_refused (-2) h) fun r_6 h_7 =>
  some (r_6, h_7))
  else (
  bd_1 (f_X12_isLane x4 h) fun r_8 =>
  if r_8 = 0 then (
  bd_2 (f_X12_refused (-2) h) fun r_88 h_89 =>
  some (r_88, h_89))
  else (
  bd_2 (f_X12_barred x3 x4 x5 x6.toInt64 h) fun r_9 h_10 =>
  if 0 ≤ r_9 then (
  bd_1 (f_X12_in x6.toInt64 1 6 h_10) fun r_11 =>
  if r_11 = 0 then (
  bd_2 (f_X12_refused (-2) h_10) fun r_84 h_85 =>
  some (r_84, h_85))
  else (
  lt_b ((100 * x3) + x5) fun x8_12 =>
  bd_1 (lp_f (fun s => lb_X12_way_112 x1 x2 x6 x8_12 s.1 s.2.1 s.2.2.1 s.2.2.2) fu_l (0, 1, 0, h_10)) fun s_53 => sw_b s_53 (fun r_83 => some r_83) fun e_54 =>
  if e_54.2.1 = 0 then (
  bd_2 (f_X12_refused (-3) e_54.2.2.2) fun r_80 h_81 =>
  some (r_80, h_81))
  else (
  if (e_54.2.2.2.1 43 23) = 6 then (
  bd_2 (f_X12_refused (-4) e_54.2.2.2) fun r_77 h_78 =>
  some (r_77, h_78))
  else (
  ga_i (e_54.2.2.2.1 43 23) 6 (
  lt_b (ph_i e_54.2.2.2 57 (e_54.2.2.2.1 43 23).toNatClampNeg 1) fun h_56 =>
  ga_i (h_56.1 43 23) 6 (
  lt_b (ph_i h_56 58 (h_56.1 43 23).toNatClampNeg x1) fun h_58 =>
  ga_i (h_58.1 43 23) 6 (
  lt_b (ph_i h_58 59 (h_58.1 43 23).toNatClampNeg x2) fun h_60 =>
  ga_i (h_60.1 43 23) 6 (
  lt_b (ph_i h_60 60 (h_60.1 43 23).toNatClampNeg x6) fun h_62 =>
  bd_1 (lp_f (fun s => lb_X12_way_264 x6 x8_12 s.1 s.2) fu_l (0, h_62)) fun s_73 =>
  lt_b (ph_i s_73.2 43 23 ((s_73.2.1 43 23) + 1)) fun h_74 =>
  bd_2 (f_X12_refused ((h_74.1 43 23) - 1) h_74) fun r_75 h_76 =>
  some (r_75, h_76)))))))))
  else (
  some (r_9, h_10))))))
  else (
  bd_2 (f_X12_refused (-1) h) fun r_93 h_94 =>
  some (r_93, h_94))
set_option maxRecDepth 100000 in
set_option maxHeartbeats 4000000 in
theorem lw_X12_way_112 {C : GC} (hC : Cx C cX12_way 13 wsX12_way RX12 (some .int) (rm_d 2)) (x1 : Int32) (x2 : Int32) (x6 : Int32) (x8 : Int32) : ∀ (n9 : Nat) (x9 : Int32) (x10 : Int32) (x11 : Int32) (h : PH) (y : (Int32 × PH) ⊕ (Int32 × Int32 × Int32 × PH)), lp_f (fun s => lb_X12_way_112 x1 x2 x6 x8 s.1 s.2.1 s.2.2.1 s.2.2.2) n9 (x9, x10, x11, h) = some y → ∀ (hk : match y with | .inl r => (∀ (pc : Nat) (L : List (Nat × Value)), narrow .int (.int r.1) = .int r.1 → decode cX12_way pc = .ok (.ireturn, 1) → Go l0_B C 0 0 pc L [.int r.1] r.2) | .inr e => Go l0_B C 0 0 192 [(0, .ref 43), (1, .int x1), (2, .int x2), (6, .int x6), (8, .int x8), (10, .int e.2.1)] [] e.2.2.2), Go l0_B C 0 0 112 [(0, .ref 43), (1, .int x1), (2, .int x2), (6, .int x6), (8, .int x8), (9, .int x9), (10, .int x10), (11, .int x11)] [] h := by
  have hn12 : ∀ w ∈ wsX120, w ∈ wsX12_way := (fun _ hw => (List.mem_cons_of_mem _ (List.mem_append_right _ hw)))
  intro n9
  induction n9 with
  | zero =>
    intro x9 x10 x11 h y hlp
    cases hlp
  | succ n9 ih =>
    intro x9 x10 x11 h y hlp hk
    obtain ⟨k9, z, hk9, hf, hy⟩ := lp_e hlp
    cases hk9
    replace hf : lb_X12_way_112 x1 x2 x6 x8 x9 x10 x11 h = some z := hf
    unfold lb_X12_way_112 at hf
    refine go_iload hC dX12_way_112 7 rfl ?_
    refine go_iload hC dX12_way_114 3 rfl ?_
    refine go_icmp_ge hC dX12_way_116 (tgt := 192) (by decide) (fun c_52 => ?_) (fun c_52 => ?_)
    · replace hf := if_t c_52 hf
      obtain rfl := so_1 hf
      obtain rfl := lp_x hy
      refine go_sub [0, 1, 2, 3, 4, 6] rfl ?_
      exact hk
    · replace hf := if_f c_52 hf
      refine go_aload_n hC dX12_way_119 rfl 0 rfl ?_
      refine go_getr hC (j := 42) (idx := 87) (nm := "sheet") (ds := "[I") (b_43 _) rfl rfl hn12 (Nat.le_of_ble_eq_true rfl) rfl rfl (List.mem_cons_of_mem _ (List.mem_append_left _ (List.mem_append_left _ (List.mem_of_getElem? (i := 3) rfl)))) (Or.inl rfl) dX12_way_120 ?_
      refine go_iload hC dX12_way_123 4 rfl ?_
      refine go_iload hC dX12_way_125 7 rfl ?_
      refine go_iadd hC dX12_way_127 ?_
      obtain ⟨g_33, hf⟩ := ga_e hf
      refine go_iald hC (b_69 _) g_33 dX12_way_128 ?_
      obtain ⟨x12_34, ex12_34, hf⟩ := lt_e hf
      refine go_topi ex12_34 ?_
      refine go_istore hC dX12_way_129 (Nat.le_of_ble_eq_true rfl) rfl ?_
      refine go_aload_n hC dX12_way_131 rfl 1 rfl ?_
      refine go_iload hC dX12_way_132 0 rfl ?_
      obtain ⟨r_35, hc, hf⟩ := bd_e1 hf
      refine go_callV hC (c_X12_noPoint x12_34 h r_35 hc) gX12_way_X12_noPoint rfl ⟨rfl, rfl⟩ 1 e_X12_noPoint ⟨Nat.le_of_ble_eq_true rfl, Nat.le_of_ble_eq_true rfl⟩ (b_43 _) rfl rfl (st := []) (st1 := [.int r_35]) rfl rfl (Nat.le_of_ble_eq_true rfl) ⟨Nat.zero_le _, Nat.zero_le _⟩ dX12_way_134 ?_
      refine go_if_eq hC dX12_way_137 (tgt := 146) (by decide) (fun c_51 => ?_) (fun c_51 => ?_)
      · replace hf := if_t c_51 hf
        refine go_iload hC dX12_way_146 7 rfl ?_
        refine go_if_eq hC dX12_way_148 (tgt := 174) (by decide) (fun c_48 => ?_) (fun c_48 => ?_)
        · replace hf := if_t c_48 hf
          refine go_iconst hC dX12_way_174 k1_0 ?_
          refine go_istore hC dX12_way_175 (Nat.le_of_ble_eq_true rfl) rfl ?_
          refine go_iload hC dX12_way_177 7 rfl ?_
          refine go_iconst hC dX12_way_179 k1_1 ?_
          refine go_iload hC dX12_way_180 1 rfl ?_
          refine go_ishl hC dX12_way_182 ?_
          refine go_ior hC dX12_way_183 ?_
          obtain ⟨x9_36, ex9_36, hf⟩ := lt_e hf
          refine go_topi ex9_36 ?_
          refine go_istore hC dX12_way_184 (Nat.le_of_ble_eq_true rfl) rfl ?_
          obtain ⟨x11_37, ex11_37, hf⟩ := lt_e hf
          refine go_iinc hC dX12_way_186 8 rfl k1_1 ex11_37 (Nat.le_of_ble_eq_true rfl) rfl ?_
          refine go_goto hC dX12_way_189 (tgt := 112) (by decide) ?_
          obtain rfl := so_1 hf
          refine go_sub [4, 5, 6, 7, 8, 1, 2, 0] rfl ?_
          exact ih x9_36 0 x11_37 h _ (lp_c hy) hk
        · replace hf := if_f c_48 hf
          refine go_iload hC dX12_way_151 6 rfl ?_
          refine go_iload hC dX12_way_153 0 rfl ?_
          obtain ⟨r_38, hc, hf⟩ := bd_e1 hf
          refine go_callS hC (c_X12_hasBit x9 x12_34 h r_38 hc) gX12_way_X12_hasBit rfl ⟨rfl, rfl⟩ 2 e_X12_hasBit ⟨Nat.le_of_ble_eq_true rfl, Nat.le_of_ble_eq_true rfl⟩ rfl (st := []) (st1 := [.int r_38]) rfl rfl (Nat.le_of_ble_eq_true rfl) ⟨Nat.zero_le _, Nat.zero_le _⟩ dX12_way_155 ?_
          refine go_if_ne hC dX12_way_158 (tgt := 174) (by decide) (fun c_47 => ?_) (fun c_47 => ?_)
          · replace hf := if_f c_47 hf
            refine go_iconst hC dX12_way_174 k1_0 ?_
            refine go_istore hC dX12_way_175 (Nat.le_of_ble_eq_true rfl) rfl ?_
            refine go_iload hC dX12_way_177 7 rfl ?_
            refine go_iconst hC dX12_way_179 k1_1 ?_
            refine go_iload hC dX12_way_180 1 rfl ?_
            refine go_ishl hC dX12_way_182 ?_
            refine go_ior hC dX12_way_183 ?_
            obtain ⟨x9_39, ex9_39, hf⟩ := lt_e hf
            refine go_topi ex9_39 ?_
            refine go_istore hC dX12_way_184 (Nat.le_of_ble_eq_true rfl) rfl ?_
            obtain ⟨x11_40, ex11_40, hf⟩ := lt_e hf
            refine go_iinc hC dX12_way_186 8 rfl k1_1 ex11_40 (Nat.le_of_ble_eq_true rfl) rfl ?_
            refine go_goto hC dX12_way_189 (tgt := 112) (by decide) ?_
            obtain rfl := so_1 hf
            refine go_sub [4, 5, 6, 7, 8, 1, 2, 0] rfl ?_
            exact ih x9_39 0 x11_40 h _ (lp_c hy) hk
          · replace hf := if_t c_47 hf
            refine go_aload_n hC dX12_way_161 rfl 1 rfl ?_
            refine go_iload hC dX12_way_162 0 rfl ?_
            obtain ⟨r_41, hc, hf⟩ := bd_e1 hf
            refine go_callV hC (c_X12_wayOf x12_34 h r_41 hc) gX12_way_X12_wayOf rfl ⟨rfl, rfl⟩ 1 e_X12_wayOf ⟨Nat.le_of_ble_eq_true rfl, Nat.le_of_ble_eq_true rfl⟩ (b_43 _) rfl rfl (st := []) (st1 := [.int r_41]) rfl rfl (Nat.le_of_ble_eq_true rfl) ⟨Nat.zero_le _, Nat.zero_le _⟩ dX12_way_164 ?_
            refine go_if_ge hC dX12_way_167 (tgt := 174) (by decide) (fun c_46 => ?_) (fun c_46 => ?_)
            · replace hf := if_t c_46 hf
              refine go_iconst hC dX12_way_174 k1_0 ?_
              refine go_istore hC dX12_way_175 (Nat.le_of_ble_eq_true rfl) rfl ?_
              refine go_iload hC dX12_way_177 7 rfl ?_
              refine go_iconst hC dX12_way_179 k1_1 ?_
              refine go_iload hC dX12_way_180 1 rfl ?_
              refine go_ishl hC dX12_way_182 ?_
              refine go_ior hC dX12_way_183 ?_
              obtain ⟨x9_42, ex9_42, hf⟩ := lt_e hf
              refine go_topi ex9_42 ?_
              refine go_istore hC dX12_way_184 (Nat.le_of_ble_eq_true rfl) rfl ?_
              obtain ⟨x11_43, ex11_43, hf⟩ := lt_e hf
              refine go_iinc hC dX12_way_186 8 rfl k1_1 ex11_43 (Nat.le_of_ble_eq_true rfl) rfl ?_
              refine go_goto hC dX12_way_189 (tgt := 112) (by decide) ?_
              obtain rfl := so_1 hf
              refine go_sub [4, 5, 6, 7, 8, 1, 2, 0] rfl ?_
              exact ih x9_42 0 x11_43 h _ (lp_c hy) hk
            · replace hf := if_f c_46 hf
              refine go_iconst hC dX12_way_170 k1_1 ?_
              refine go_goto hC dX12_way_171 (tgt := 175) (by decide) ?_
              refine go_istore hC dX12_way_175 (Nat.le_of_ble_eq_true rfl) rfl ?_
              refine go_iload hC dX12_way_177 7 rfl ?_
              refine go_iconst hC dX12_way_179 k1_1 ?_
              refine go_iload hC dX12_way_180 1 rfl ?_
              refine go_ishl hC dX12_way_182 ?_
              refine go_ior hC dX12_way_183 ?_
              obtain ⟨x9_44, ex9_44, hf⟩ := lt_e hf
              refine go_topi ex9_44 ?_
              refine go_istore hC dX12_way_184 (Nat.le_of_ble_eq_true rfl) rfl ?_
              obtain ⟨x11_45, ex11_45, hf⟩ := lt_e hf
              refine go_iinc hC dX12_way_186 8 rfl k1_1 ex11_45 (Nat.le_of_ble_eq_true rfl) rfl ?_
              refine go_goto hC dX12_way_189 (tgt := 112) (by decide) ?_
              obtain rfl := so_1 hf
              refine go_sub [4, 5, 6, 7, 8, 1, 2, 0] rfl ?_
              exact ih x9_44 1 x11_45 h _ (lp_c hy) hk
      · replace hf := if_f c_51 hf
        refine go_aload_n hC dX12_way_140 rfl 1 rfl ?_
        refine go_iconst hC dX12_way_141 k1_m1 ?_
        obtain ⟨r_49, h_50, hc, hf⟩ := bd_e2 hf
        refine go_callV hC (c_X12_refused (-1) h h_50 r_49 hc) gX12_way_X12_refused rfl ⟨rfl, rfl⟩ 1 e_X12_refused ⟨Nat.le_of_ble_eq_true rfl, Nat.le_of_ble_eq_true rfl⟩ (b_43 _) rfl rfl (st := []) (st1 := [.int r_49]) rfl rfl (Nat.le_of_ble_eq_true rfl) ⟨Nat.zero_le _, Nat.zero_le _⟩ dX12_way_142 ?_
        obtain rfl := so_1 hf
        obtain rfl := lp_x hy
        exact hk _ _ rfl dX12_way_145
set_option maxRecDepth 100000 in
set_option maxHeartbeats 4000000 in
theorem lw_X12_way_264 {C : GC} (hC : Cx C cX12_way 13 wsX12_way RX12 (some .int) (rm_d 2)) (x6 : Int32) (x8 : Int32) : ∀ (n9 : Nat) (x11 : Int32) (h : PH) (y : Int32 × PH), lp_f (fun s => lb_X12_way_264 x6 x8 s.1 s.2) n9 (x11, h) = some y → ∀ (hk : Go l0_B C 0 0 302 [(0, .ref 43)] [] y.2), Go l0_B C 0 0 264 [(0, .ref 43), (6, .int x6), (8, .int x8), (11, .int x11)] [] h := by
  have hn12 : ∀ w ∈ wsX120, w ∈ wsX12_way := (fun _ hw => (List.mem_cons_of_mem _ (List.mem_append_right _ hw)))
  intro n9
  induction n9 with
  | zero =>
    intro x11 h y hlp
    cases hlp
  | succ n9 ih =>
    intro x11 h y hlp hk
    obtain ⟨k9, z, hk9, hf, hy⟩ := lp_e hlp
    cases hk9
    replace hf : lb_X12_way_264 x6 x8 x11 h = some z := hf
    unfold lb_X12_way_264 at hf
    refine go_iload hC dX12_way_264 3 rfl ?_
    refine go_iload hC dX12_way_266 1 rfl ?_
    refine go_icmp_ge hC dX12_way_268 (tgt := 302) (by decide) (fun c_72 => ?_) (fun c_72 => ?_)
    · replace hf := if_t c_72 hf
      obtain rfl := so_1 hf
      obtain rfl := lp_x hy
      refine go_sub [0] rfl ?_
      exact hk
    · replace hf := if_f c_72 hf
      refine go_aload_n hC dX12_way_271 rfl 0 rfl ?_
      refine go_getr hC (j := 28) (idx := 62) (nm := "wayPoint") (ds := "[I") (b_43 _) rfl rfl hn12 (Nat.le_of_ble_eq_true rfl) rfl rfl (List.mem_cons_of_mem _ (List.mem_append_left _ (List.mem_append_left _ (List.mem_of_getElem? (i := 9) rfl)))) (Or.inl rfl) dX12_way_272 ?_
      refine go_bipush hC dX12_way_275 k8_6 ?_
      refine go_aload_n hC dX12_way_277 rfl 0 rfl ?_
      refine go_geti hC (j := 23) (idx := 173) (nm := "ways") (ds := "I") (b_43 _) rfl rfl hn12 (Nat.le_of_ble_eq_true rfl) rfl rfl (List.mem_cons_of_mem _ (List.mem_append_left _ (List.mem_append_left _ (List.mem_of_getElem? (i := 4) rfl)))) (Or.inl rfl) dX12_way_278 ?_
      refine go_imul hC dX12_way_281 ?_
      refine go_iload hC dX12_way_282 3 rfl ?_
      refine go_iadd hC dX12_way_284 ?_
      refine go_aload_n hC dX12_way_285 rfl 0 rfl ?_
      refine go_getr hC (j := 42) (idx := 87) (nm := "sheet") (ds := "[I") (b_43 _) rfl rfl hn12 (Nat.le_of_ble_eq_true rfl) rfl rfl (List.mem_cons_of_mem _ (List.mem_append_left _ (List.mem_append_left _ (List.mem_of_getElem? (i := 3) rfl)))) (Or.inl rfl) dX12_way_286 ?_
      refine go_iload hC dX12_way_289 2 rfl ?_
      refine go_iload hC dX12_way_291 3 rfl ?_
      refine go_iadd hC dX12_way_293 ?_
      obtain ⟨g_68, hf⟩ := ga_e hf
      refine go_iald hC (b_69 _) g_68 dX12_way_294 ?_
      obtain ⟨g_69, hf⟩ := ga_e hf
      obtain ⟨h_70, eh_70, hf⟩ := lt_e hf
      refine go_iast hC (b_61 _) g_69 dX12_way_295 ?_
      refine go_toph eh_70 ?_
      obtain ⟨x11_71, ex11_71, hf⟩ := lt_e hf
      refine go_iinc hC dX12_way_296 3 rfl k1_1 ex11_71 (Nat.le_of_ble_eq_true rfl) rfl ?_
      refine go_goto hC dX12_way_299 (tgt := 264) (by decide) ?_
      obtain rfl := so_1 hf
      refine go_sub [1, 2, 3, 0] rfl ?_
      exact ih x11_71 h_70 _ (lp_c hy) hk
theorem e_X12_way : yX12_way.cls = RX12 ∧ yX12_way.cls ≠ "java/lang/invoke/MethodHandle" ∧ yX12_way.cls ≠ "java/lang/invoke/VarHandle" ∧ (parseMethodDescriptor yX12_way.desc).map (fun d => d.parameters.length) = some 6 := by decide +kernel
set_option maxRecDepth 100000 in
set_option maxHeartbeats 4000000 in
theorem c_X12_way (x1 : Int32) (x2 : Int32) (x3 : Int32) (x4 : Int32) (x5 : Int32) (x6 : Int32) (h : PH) (h2 : PH) (r : Int32) (hf : f_X12_way x1 x2 x3 x4 x5 x6 h = some (r, h2)) : Con yX12_way wsX12_way (rm_d 2) l0_B [.ref 43, .int x1, .int x2, .int x3, .int x4, .int x5, .int x6] h (some (.int r)) h2 := by
  have hn12 : ∀ w ∈ wsX120, w ∈ wsX12_way := (fun _ hw => (List.mem_cons_of_mem _ (List.mem_append_right _ hw)))
  refine con_i (ty := .int) (cc := cX12_way) (nL := 13) (by decide) rfl (Nat.le_of_ble_eq_true rfl) ?_
  intro C hC hret
  change Go l0_B C 0 0 0 [(0, .ref 43), (1, .int x1), (2, .int x2), (3, .int x3), (4, .int x4), (5, .int x5), (6, .int x6)] [] h
  unfold f_X12_way at hf
  refine go_iload_n hC dX12_way_0 rfl 3 rfl ?_
  obtain ⟨r_1, hc, hf⟩ := bd_e1 hf
  refine go_callS hC (c_X12_noSheet x3 h r_1 hc) gX12_way_X12_noSheet rfl ⟨rfl, rfl⟩ 1 e_X12_noSheet ⟨Nat.le_of_ble_eq_true rfl, Nat.le_of_ble_eq_true rfl⟩ rfl (st := []) (st1 := [.int r_1]) rfl rfl (Nat.le_of_ble_eq_true rfl) ⟨Nat.zero_le _, Nat.zero_le _⟩ dX12_way_1 ?_
  refine go_if_eq hC dX12_way_4 (tgt := 13) (by decide) (fun c_95 => ?_) (fun c_95 => ?_)
  · replace hf := if_t c_95 hf
    refine go_iload_n hC dX12_way_13 rfl 1 rfl ?_
    refine go_i2l hC dX12_way_14 ?_
    refine go_lconst hC dX12_way_15 (v := 0) rfl ?_
    refine go_ldc2 hC (v := 2) (List.mem_cons_of_mem _ (List.mem_append_left _ (List.mem_append_left _ (List.mem_of_getElem? (i := 0) rfl)))) dX12_way_16 ?_
    obtain ⟨r_2, hc, hf⟩ := bd_e1 hf
    refine go_callS hC (c_X12_in x1.toInt64 0 2 h r_2 hc) gX12_way_X12_in rfl ⟨rfl, rfl⟩ 3 e_X12_in ⟨Nat.le_of_ble_eq_true rfl, Nat.le_of_ble_eq_true rfl⟩ rfl (st := []) (st1 := [.int r_2]) rfl rfl (Nat.le_of_ble_eq_true rfl) ⟨Nat.zero_le _, Nat.zero_le _⟩ dX12_way_19 ?_
    refine go_if_eq hC dX12_way_22 (tgt := 45) (by decide) (fun c_92 => ?_) (fun c_92 => ?_)
    · replace hf := if_t c_92 hf
      refine go_aload_n hC dX12_way_45 rfl 0 rfl ?_
      refine go_bipush hC dX12_way_46 k8_m2 ?_
      obtain ⟨r_3, h_4, hc, hf⟩ := bd_e2 hf
      refine go_callV hC (c_X12_refused (-2) h h_4 r_3 hc) gX12_way_X12_refused rfl ⟨rfl, rfl⟩ 1 e_X12_refused ⟨Nat.le_of_ble_eq_true rfl, Nat.le_of_ble_eq_true rfl⟩ (b_43 _) rfl rfl (st := []) (st1 := [.int r_3]) rfl rfl (Nat.le_of_ble_eq_true rfl) ⟨Nat.zero_le _, Nat.zero_le _⟩ dX12_way_48 ?_
      obtain ⟨rfl, rfl⟩ := so_2 hf
      exact hret _ _ rfl dX12_way_51
    · replace hf := if_f c_92 hf
      refine go_iload_n hC dX12_way_25 rfl 2 rfl ?_
      refine go_i2l hC dX12_way_26 ?_
      refine go_lconst hC dX12_way_27 (v := 1) rfl ?_
      refine go_ldc2 hC (v := 99) (List.mem_cons_of_mem _ (List.mem_append_left _ (List.mem_append_left _ (List.mem_of_getElem? (i := 1) rfl)))) dX12_way_28 ?_
      obtain ⟨r_5, hc, hf⟩ := bd_e1 hf
      refine go_callS hC (c_X12_in x2.toInt64 1 99 h r_5 hc) gX12_way_X12_in rfl ⟨rfl, rfl⟩ 3 e_X12_in ⟨Nat.le_of_ble_eq_true rfl, Nat.le_of_ble_eq_true rfl⟩ rfl (st := []) (st1 := [.int r_5]) rfl rfl (Nat.le_of_ble_eq_true rfl) ⟨Nat.zero_le _, Nat.zero_le _⟩ dX12_way_31 ?_
      refine go_if_eq hC dX12_way_34 (tgt := 45) (by decide) (fun c_91 => ?_) (fun c_91 => ?_)
      · replace hf := if_t c_91 hf
        refine go_aload_n hC dX12_way_45 rfl 0 rfl ?_
        refine go_bipush hC dX12_way_46 k8_m2 ?_
        obtain ⟨r_6, h_7, hc, hf⟩ := bd_e2 hf
        refine go_callV hC (c_X12_refused (-2) h h_7 r_6 hc) gX12_way_X12_refused rfl ⟨rfl, rfl⟩ 1 e_X12_refused ⟨Nat.le_of_ble_eq_true rfl, Nat.le_of_ble_eq_true rfl⟩ (b_43 _) rfl rfl (st := []) (st1 := [.int r_6]) rfl rfl (Nat.le_of_ble_eq_true rfl) ⟨Nat.zero_le _, Nat.zero_le _⟩ dX12_way_48 ?_
        obtain ⟨rfl, rfl⟩ := so_2 hf
        exact hret _ _ rfl dX12_way_51
      · replace hf := if_f c_91 hf
        refine go_iload hC dX12_way_37 4 rfl ?_
        obtain ⟨r_8, hc, hf⟩ := bd_e1 hf
        refine go_callS hC (c_X12_isLane x4 h r_8 hc) gX12_way_X12_isLane rfl ⟨rfl, rfl⟩ 1 e_X12_isLane ⟨Nat.le_of_ble_eq_true rfl, Nat.le_of_ble_eq_true rfl⟩ rfl (st := []) (st1 := [.int r_8]) rfl rfl (Nat.le_of_ble_eq_true rfl) ⟨Nat.zero_le _, Nat.zero_le _⟩ dX12_way_39 ?_
        refine go_if_ne hC dX12_way_42 (tgt := 52) (by decide) (fun c_90 => ?_) (fun c_90 => ?_)
        · replace hf := if_f c_90 hf
          refine go_aload_n hC dX12_way_52 rfl 0 rfl ?_
          refine go_iload_n hC dX12_way_53 rfl 3 rfl ?_
          refine go_iload hC dX12_way_54 4 rfl ?_
          refine go_iload hC dX12_way_56 5 rfl ?_
          refine go_iload hC dX12_way_58 6 rfl ?_
          refine go_i2l hC dX12_way_60 ?_
          obtain ⟨r_9, h_10, hc, hf⟩ := bd_e2 hf
          refine go_callV hC (c_X12_barred x3 x4 x5 x6.toInt64 h h_10 r_9 hc) gX12_way_X12_barred rfl ⟨rfl, rfl⟩ 4 e_X12_barred ⟨Nat.le_of_ble_eq_true rfl, Nat.le_of_ble_eq_true rfl⟩ (b_43 _) rfl rfl (st := []) (st1 := [.int r_9]) rfl rfl (Nat.le_of_ble_eq_true rfl) ⟨Nat.zero_le _, Nat.zero_le _⟩ dX12_way_61 ?_
          refine go_istore hC dX12_way_64 (Nat.le_of_ble_eq_true rfl) rfl ?_
          refine go_iload hC dX12_way_66 0 rfl ?_
          refine go_if_ge hC dX12_way_68 (tgt := 74) (by decide) (fun c_87 => ?_) (fun c_87 => ?_)
          · replace hf := if_t c_87 hf
            refine go_iload hC dX12_way_74 7 rfl ?_
            refine go_i2l hC dX12_way_76 ?_
            refine go_lconst hC dX12_way_77 (v := 1) rfl ?_
            refine go_ldc2 hC (v := 6) (List.mem_cons_of_mem _ (List.mem_append_left _ (List.mem_append_left _ (List.mem_of_getElem? (i := 2) rfl)))) dX12_way_78 ?_
            obtain ⟨r_11, hc, hf⟩ := bd_e1 hf
            refine go_callS hC (c_X12_in x6.toInt64 1 6 h_10 r_11 hc) gX12_way_X12_in rfl ⟨rfl, rfl⟩ 3 e_X12_in ⟨Nat.le_of_ble_eq_true rfl, Nat.le_of_ble_eq_true rfl⟩ rfl (st := []) (st1 := [.int r_11]) rfl rfl (Nat.le_of_ble_eq_true rfl) ⟨Nat.zero_le _, Nat.zero_le _⟩ dX12_way_81 ?_
            refine go_if_ne hC dX12_way_84 (tgt := 94) (by decide) (fun c_86 => ?_) (fun c_86 => ?_)
            · replace hf := if_f c_86 hf
              refine go_bipush hC dX12_way_94 k8_100 ?_
              refine go_iload_n hC dX12_way_96 rfl 4 rfl ?_
              refine go_imul hC dX12_way_97 ?_
              refine go_iload hC dX12_way_98 6 rfl ?_
              refine go_iadd hC dX12_way_100 ?_
              obtain ⟨x8_12, ex8_12, hf⟩ := lt_e hf
              refine go_topi ex8_12 ?_
              refine go_istore hC dX12_way_101 (Nat.le_of_ble_eq_true rfl) rfl ?_
              refine go_iconst hC dX12_way_103 k1_0 ?_
              refine go_istore hC dX12_way_104 (Nat.le_of_ble_eq_true rfl) rfl ?_
              refine go_iconst hC dX12_way_106 k1_1 ?_
              refine go_istore hC dX12_way_107 (Nat.le_of_ble_eq_true rfl) rfl ?_
              refine go_iconst hC dX12_way_109 k1_0 ?_
              refine go_istore hC dX12_way_110 (Nat.le_of_ble_eq_true rfl) rfl ?_
              obtain ⟨s_53, hl, hf⟩ := bd_e1 hf
              refine go_sub [5, 6, 7, 11, 3, 2, 1, 0] rfl ?_
              refine lw_X12_way_112 hC x1 x2 x6 x8_12 _ 0 1 0 h_10 s_53 hl ?_
              rcases s_53 with r_83 | e_54
              · replace hf : some r_83 = some _ := hf
                cases hf
                exact hret
              · replace hf := sw_r hf
                refine go_iload hC dX12_way_192 5 rfl ?_
                refine go_if_ne hC dX12_way_194 (tgt := 204) (by decide) (fun c_82 => ?_) (fun c_82 => ?_)
                · replace hf := if_f c_82 hf
                  refine go_aload_n hC dX12_way_204 rfl 0 rfl ?_
                  refine go_geti hC (j := 23) (idx := 173) (nm := "ways") (ds := "I") (b_43 _) rfl rfl hn12 (Nat.le_of_ble_eq_true rfl) rfl rfl (List.mem_cons_of_mem _ (List.mem_append_left _ (List.mem_append_left _ (List.mem_of_getElem? (i := 4) rfl)))) (Or.inl rfl) dX12_way_205 ?_
                  refine go_bipush hC dX12_way_208 k8_6 ?_
                  refine go_icmp_ne hC dX12_way_210 (tgt := 220) (by decide) (fun c_79 => ?_) (fun c_79 => ?_)
                  · replace hf := if_f c_79 hf
                    refine go_aload_n hC dX12_way_220 rfl 0 rfl ?_
                    refine go_getr hC (j := 24) (idx := 50) (nm := "isHere") (ds := "[Z") (b_43 _) rfl rfl hn12 (Nat.le_of_ble_eq_true rfl) rfl rfl (List.mem_cons_of_mem _ (List.mem_append_left _ (List.mem_append_left _ (List.mem_of_getElem? (i := 5) rfl)))) (Or.inl rfl) dX12_way_221 ?_
                    refine go_aload_n hC dX12_way_224 rfl 0 rfl ?_
                    refine go_geti hC (j := 23) (idx := 173) (nm := "ways") (ds := "I") (b_43 _) rfl rfl hn12 (Nat.le_of_ble_eq_true rfl) rfl rfl (List.mem_cons_of_mem _ (List.mem_append_left _ (List.mem_append_left _ (List.mem_of_getElem? (i := 4) rfl)))) (Or.inl rfl) dX12_way_225 ?_
                    refine go_iconst hC dX12_way_228 k1_1 ?_
                    obtain ⟨g_55, hf⟩ := ga_e hf
                    obtain ⟨h_56, eh_56, hf⟩ := lt_e hf
                    refine go_zast hC (b_57 _) g_55 (Or.inr rfl) dX12_way_229 ?_
                    refine go_toph eh_56 ?_
                    refine go_aload_n hC dX12_way_230 rfl 0 rfl ?_
                    refine go_getr hC (j := 25) (idx := 53) (nm := "wayKind") (ds := "[I") (b_43 _) rfl rfl hn12 (Nat.le_of_ble_eq_true rfl) rfl rfl (List.mem_cons_of_mem _ (List.mem_append_left _ (List.mem_append_left _ (List.mem_of_getElem? (i := 6) rfl)))) (Or.inl rfl) dX12_way_231 ?_
                    refine go_aload_n hC dX12_way_234 rfl 0 rfl ?_
                    refine go_geti hC (j := 23) (idx := 173) (nm := "ways") (ds := "I") (b_43 _) rfl rfl hn12 (Nat.le_of_ble_eq_true rfl) rfl rfl (List.mem_cons_of_mem _ (List.mem_append_left _ (List.mem_append_left _ (List.mem_of_getElem? (i := 4) rfl)))) (Or.inl rfl) dX12_way_235 ?_
                    refine go_iload_n hC dX12_way_238 rfl 1 rfl ?_
                    obtain ⟨g_57, hf⟩ := ga_e hf
                    obtain ⟨h_58, eh_58, hf⟩ := lt_e hf
                    refine go_iast hC (b_58 _) g_57 dX12_way_239 ?_
                    refine go_toph eh_58 ?_
                    refine go_aload_n hC dX12_way_240 rfl 0 rfl ?_
                    refine go_getr hC (j := 26) (idx := 56) (nm := "wayFuse") (ds := "[I") (b_43 _) rfl rfl hn12 (Nat.le_of_ble_eq_true rfl) rfl rfl (List.mem_cons_of_mem _ (List.mem_append_left _ (List.mem_append_left _ (List.mem_of_getElem? (i := 7) rfl)))) (Or.inl rfl) dX12_way_241 ?_
                    refine go_aload_n hC dX12_way_244 rfl 0 rfl ?_
                    refine go_geti hC (j := 23) (idx := 173) (nm := "ways") (ds := "I") (b_43 _) rfl rfl hn12 (Nat.le_of_ble_eq_true rfl) rfl rfl (List.mem_cons_of_mem _ (List.mem_append_left _ (List.mem_append_left _ (List.mem_of_getElem? (i := 4) rfl)))) (Or.inl rfl) dX12_way_245 ?_
                    refine go_iload_n hC dX12_way_248 rfl 2 rfl ?_
                    obtain ⟨g_59, hf⟩ := ga_e hf
                    obtain ⟨h_60, eh_60, hf⟩ := lt_e hf
                    refine go_iast hC (b_59 _) g_59 dX12_way_249 ?_
                    refine go_toph eh_60 ?_
                    refine go_aload_n hC dX12_way_250 rfl 0 rfl ?_
                    refine go_getr hC (j := 27) (idx := 59) (nm := "wayMany") (ds := "[I") (b_43 _) rfl rfl hn12 (Nat.le_of_ble_eq_true rfl) rfl rfl (List.mem_cons_of_mem _ (List.mem_append_left _ (List.mem_append_left _ (List.mem_of_getElem? (i := 8) rfl)))) (Or.inl rfl) dX12_way_251 ?_
                    refine go_aload_n hC dX12_way_254 rfl 0 rfl ?_
                    refine go_geti hC (j := 23) (idx := 173) (nm := "ways") (ds := "I") (b_43 _) rfl rfl hn12 (Nat.le_of_ble_eq_true rfl) rfl rfl (List.mem_cons_of_mem _ (List.mem_append_left _ (List.mem_append_left _ (List.mem_of_getElem? (i := 4) rfl)))) (Or.inl rfl) dX12_way_255 ?_
                    refine go_iload hC dX12_way_258 3 rfl ?_
                    obtain ⟨g_61, hf⟩ := ga_e hf
                    obtain ⟨h_62, eh_62, hf⟩ := lt_e hf
                    refine go_iast hC (b_60 _) g_61 dX12_way_260 ?_
                    refine go_toph eh_62 ?_
                    refine go_iconst hC dX12_way_261 k1_0 ?_
                    refine go_istore hC dX12_way_262 (Nat.le_of_ble_eq_true rfl) rfl ?_
                    obtain ⟨s_73, hl, hf⟩ := bd_e1 hf
                    refine go_sub [1, 4, 5, 0] rfl ?_
                    refine lw_X12_way_264 hC x6 x8_12 _ 0 h_62 s_73 hl ?_
                    refine go_aload_n hC dX12_way_302 rfl 0 rfl ?_
                    refine go_dup hC dX12_way_303 rfl ?_
                    refine go_geti hC (j := 23) (idx := 173) (nm := "ways") (ds := "I") (b_43 _) rfl rfl hn12 (Nat.le_of_ble_eq_true rfl) rfl rfl (List.mem_cons_of_mem _ (List.mem_append_left _ (List.mem_append_left _ (List.mem_of_getElem? (i := 4) rfl)))) (Or.inl rfl) dX12_way_304 ?_
                    refine go_iconst hC dX12_way_307 k1_1 ?_
                    refine go_iadd hC dX12_way_308 ?_
                    obtain ⟨h_74, eh_74, hf⟩ := lt_e hf
                    refine go_puti hC tyX12 (j := 23) (idx := 173) (nm := "ways") (ds := "I") (b_43 _) rfl rfl hn12 tyX12_ok nmX12 (Nat.le_of_ble_eq_true rfl) rfl rfl (List.mem_cons_of_mem _ (List.mem_append_left _ (List.mem_append_left _ (List.mem_of_getElem? (i := 4) rfl)))) (Or.inl rfl) rfl (tyX12_ok _ (Nat.le_of_ble_eq_true rfl)) dX12_way_309 ?_
                    refine go_toph eh_74 ?_
                    refine go_aload_n hC dX12_way_312 rfl 0 rfl ?_
                    refine go_aload_n hC dX12_way_313 rfl 0 rfl ?_
                    refine go_geti hC (j := 23) (idx := 173) (nm := "ways") (ds := "I") (b_43 _) rfl rfl hn12 (Nat.le_of_ble_eq_true rfl) rfl rfl (List.mem_cons_of_mem _ (List.mem_append_left _ (List.mem_append_left _ (List.mem_of_getElem? (i := 4) rfl)))) (Or.inl rfl) dX12_way_314 ?_
                    refine go_iconst hC dX12_way_317 k1_1 ?_
                    refine go_isub hC dX12_way_318 ?_
                    obtain ⟨r_75, h_76, hc, hf⟩ := bd_e2 hf
                    refine go_callV hC (c_X12_refused ((h_74.1 43 23) - 1) h_74 h_76 r_75 hc) gX12_way_X12_refused rfl ⟨rfl, rfl⟩ 1 e_X12_refused ⟨Nat.le_of_ble_eq_true rfl, Nat.le_of_ble_eq_true rfl⟩ (b_43 _) rfl rfl (st := []) (st1 := [.int r_75]) rfl rfl (Nat.le_of_ble_eq_true rfl) ⟨Nat.zero_le _, Nat.zero_le _⟩ dX12_way_319 ?_
                    obtain ⟨rfl, rfl⟩ := so_2 hf
                    exact hret _ _ rfl dX12_way_322
                  · replace hf := if_t c_79 hf
                    refine go_aload_n hC dX12_way_213 rfl 0 rfl ?_
                    refine go_bipush hC dX12_way_214 k8_m4 ?_
                    obtain ⟨r_77, h_78, hc, hf⟩ := bd_e2 hf
                    refine go_callV hC (c_X12_refused (-4) e_54.2.2.2 h_78 r_77 hc) gX12_way_X12_refused rfl ⟨rfl, rfl⟩ 1 e_X12_refused ⟨Nat.le_of_ble_eq_true rfl, Nat.le_of_ble_eq_true rfl⟩ (b_43 _) rfl rfl (st := []) (st1 := [.int r_77]) rfl rfl (Nat.le_of_ble_eq_true rfl) ⟨Nat.zero_le _, Nat.zero_le _⟩ dX12_way_216 ?_
                    obtain ⟨rfl, rfl⟩ := so_2 hf
                    exact hret _ _ rfl dX12_way_219
                · replace hf := if_t c_82 hf
                  refine go_aload_n hC dX12_way_197 rfl 0 rfl ?_
                  refine go_bipush hC dX12_way_198 k8_m3 ?_
                  obtain ⟨r_80, h_81, hc, hf⟩ := bd_e2 hf
                  refine go_callV hC (c_X12_refused (-3) e_54.2.2.2 h_81 r_80 hc) gX12_way_X12_refused rfl ⟨rfl, rfl⟩ 1 e_X12_refused ⟨Nat.le_of_ble_eq_true rfl, Nat.le_of_ble_eq_true rfl⟩ (b_43 _) rfl rfl (st := []) (st1 := [.int r_80]) rfl rfl (Nat.le_of_ble_eq_true rfl) ⟨Nat.zero_le _, Nat.zero_le _⟩ dX12_way_200 ?_
                  obtain ⟨rfl, rfl⟩ := so_2 hf
                  exact hret _ _ rfl dX12_way_203
            · replace hf := if_t c_86 hf
              refine go_aload_n hC dX12_way_87 rfl 1 rfl ?_
              refine go_bipush hC dX12_way_88 k8_m2 ?_
              obtain ⟨r_84, h_85, hc, hf⟩ := bd_e2 hf
              refine go_callV hC (c_X12_refused (-2) h_10 h_85 r_84 hc) gX12_way_X12_refused rfl ⟨rfl, rfl⟩ 1 e_X12_refused ⟨Nat.le_of_ble_eq_true rfl, Nat.le_of_ble_eq_true rfl⟩ (b_43 _) rfl rfl (st := []) (st1 := [.int r_84]) rfl rfl (Nat.le_of_ble_eq_true rfl) ⟨Nat.zero_le _, Nat.zero_le _⟩ dX12_way_90 ?_
              obtain ⟨rfl, rfl⟩ := so_2 hf
              exact hret _ _ rfl dX12_way_93
          · replace hf := if_f c_87 hf
            refine go_iload hC dX12_way_71 0 rfl ?_
            obtain ⟨rfl, rfl⟩ := so_2 hf
            exact hret _ _ rfl dX12_way_73
        · replace hf := if_t c_90 hf
          refine go_aload_n hC dX12_way_45 rfl 0 rfl ?_
          refine go_bipush hC dX12_way_46 k8_m2 ?_
          obtain ⟨r_88, h_89, hc, hf⟩ := bd_e2 hf
          refine go_callV hC (c_X12_refused (-2) h h_89 r_88 hc) gX12_way_X12_refused rfl ⟨rfl, rfl⟩ 1 e_X12_refused ⟨Nat.le_of_ble_eq_true rfl, Nat.le_of_ble_eq_true rfl⟩ (b_43 _) rfl rfl (st := []) (st1 := [.int r_88]) rfl rfl (Nat.le_of_ble_eq_true rfl) ⟨Nat.zero_le _, Nat.zero_le _⟩ dX12_way_48 ?_
          obtain ⟨rfl, rfl⟩ := so_2 hf
          exact hret _ _ rfl dX12_way_51
  · replace hf := if_f c_95 hf
    refine go_aload_n hC dX12_way_7 rfl 0 rfl ?_
    refine go_iconst hC dX12_way_8 k1_m1 ?_
    obtain ⟨r_93, h_94, hc, hf⟩ := bd_e2 hf
    refine go_callV hC (c_X12_refused (-1) h h_94 r_93 hc) gX12_way_X12_refused rfl ⟨rfl, rfl⟩ 1 e_X12_refused ⟨Nat.le_of_ble_eq_true rfl, Nat.le_of_ble_eq_true rfl⟩ (b_43 _) rfl rfl (st := []) (st1 := [.int r_93]) rfl rfl (Nat.le_of_ble_eq_true rfl) ⟨Nat.zero_le _, Nat.zero_le _⟩ dX12_way_9 ?_
    obtain ⟨rfl, rfl⟩ := so_2 hf
    exact hret _ _ rfl dX12_way_12
def f_X12_away (x1 : Int32) (h : PH) : Option (Int32 × PH) :=
  bd_1 (f_X12_noWay x1 h) fun r_1 =>
  if r_1 = 0 then (
  ga_i x1 6 (
  lt_b (ph_i h 57 x1.toNatClampNeg 0) fun h_3 =>
  ga_i x1 6 (
  some (h_3.1 60 x1.toNatClampNeg, h_3))))
  else (
  some ((-1), h))
theorem e_X12_away : yX12_away.cls = RX12 ∧ yX12_away.cls ≠ "java/lang/invoke/MethodHandle" ∧ yX12_away.cls ≠ "java/lang/invoke/VarHandle" ∧ (parseMethodDescriptor yX12_away.desc).map (fun d => d.parameters.length) = some 1 := by decide +kernel
set_option maxRecDepth 100000 in
set_option maxHeartbeats 4000000 in
theorem c_X12_away (x1 : Int32) (h : PH) (h2 : PH) (r : Int32) (hf : f_X12_away x1 h = some (r, h2)) : Con yX12_away wsX12_away (rm_d 2) l0_B [.ref 43, .int x1] h (some (.int r)) h2 := by
  have hn12 : ∀ w ∈ wsX120, w ∈ wsX12_away := (fun _ hw => (List.mem_cons_of_mem _ (List.mem_append_right _ hw)))
  refine con_i (ty := .int) (cc := cX12_away) (nL := 2) (by decide) rfl (Nat.le_of_ble_eq_true rfl) ?_
  intro C hC hret
  change Go l0_B C 0 0 0 [(0, .ref 43), (1, .int x1)] [] h
  unfold f_X12_away at hf
  refine go_aload_n hC dX12_away_0 rfl 0 rfl ?_
  refine go_iload_n hC dX12_away_1 rfl 1 rfl ?_
  obtain ⟨r_1, hc, hf⟩ := bd_e1 hf
  refine go_callV hC (c_X12_noWay x1 h r_1 hc) gX12_away_X12_noWay rfl ⟨rfl, rfl⟩ 1 e_X12_noWay ⟨Nat.le_of_ble_eq_true rfl, Nat.le_of_ble_eq_true rfl⟩ (b_43 _) rfl rfl (st := []) (st1 := [.int r_1]) rfl rfl (Nat.le_of_ble_eq_true rfl) ⟨Nat.zero_le _, Nat.zero_le _⟩ dX12_away_2 ?_
  refine go_if_eq hC dX12_away_5 (tgt := 10) (by decide) (fun c_5 => ?_) (fun c_5 => ?_)
  · replace hf := if_t c_5 hf
    refine go_aload_n hC dX12_away_10 rfl 0 rfl ?_
    refine go_getr hC (j := 24) (idx := 50) (nm := "isHere") (ds := "[Z") (b_43 _) rfl rfl hn12 (Nat.le_of_ble_eq_true rfl) rfl rfl (List.mem_cons_of_mem _ (List.mem_append_left _ (List.mem_of_getElem? (i := 0) rfl))) (Or.inl rfl) dX12_away_11 ?_
    refine go_iload_n hC dX12_away_14 rfl 1 rfl ?_
    refine go_iconst hC dX12_away_15 k1_0 ?_
    obtain ⟨g_2, hf⟩ := ga_e hf
    obtain ⟨h_3, eh_3, hf⟩ := lt_e hf
    refine go_zast hC (b_57 _) g_2 (Or.inl rfl) dX12_away_16 ?_
    refine go_toph eh_3 ?_
    refine go_aload_n hC dX12_away_17 rfl 0 rfl ?_
    refine go_getr hC (j := 27) (idx := 59) (nm := "wayMany") (ds := "[I") (b_43 _) rfl rfl hn12 (Nat.le_of_ble_eq_true rfl) rfl rfl (List.mem_cons_of_mem _ (List.mem_append_left _ (List.mem_of_getElem? (i := 1) rfl))) (Or.inl rfl) dX12_away_18 ?_
    refine go_iload_n hC dX12_away_21 rfl 1 rfl ?_
    obtain ⟨g_4, hf⟩ := ga_e hf
    refine go_iald hC (b_60 _) g_4 dX12_away_22 ?_
    obtain ⟨rfl, rfl⟩ := so_2 hf
    exact hret _ _ rfl dX12_away_23
  · replace hf := if_f c_5 hf
    refine go_iconst hC dX12_away_8 k1_m1 ?_
    obtain ⟨rfl, rfl⟩ := so_2 hf
    exact hret _ _ rfl dX12_away_9
def f_X12_manyPieces (x1 : Int32) (h : PH) : Option (Int32) :=
  ga_i x1 6 (
  ga_i x1 6 (
  if (h.1 58 x1.toNatClampNeg) ≤ 0 then (
  some ((h.1 60 x1.toNatClampNeg) + 0))
  else (
  some ((h.1 60 x1.toNatClampNeg) + 1))))
theorem e_X12_manyPieces : yX12_manyPieces.cls = RX12 ∧ yX12_manyPieces.cls ≠ "java/lang/invoke/MethodHandle" ∧ yX12_manyPieces.cls ≠ "java/lang/invoke/VarHandle" ∧ (parseMethodDescriptor yX12_manyPieces.desc).map (fun d => d.parameters.length) = some 1 := by decide +kernel
set_option maxRecDepth 100000 in
set_option maxHeartbeats 4000000 in
theorem c_X12_manyPieces (x1 : Int32) (h : PH) (r : Int32) (hf : f_X12_manyPieces x1 h = some r) : Con yX12_manyPieces wsX12_manyPieces (rm_d 0) l0_B [.ref 43, .int x1] h (some (.int r)) h := by
  have hn12 : ∀ w ∈ wsX120, w ∈ wsX12_manyPieces := (fun _ hw => (List.mem_cons_of_mem _ (List.mem_append_right _ hw)))
  refine con_i (ty := .int) (cc := cX12_manyPieces) (nL := 2) (by decide) rfl (Nat.le_of_ble_eq_true rfl) ?_
  intro C hC hret
  change Go l0_B C 0 0 0 [(0, .ref 43), (1, .int x1)] [] h
  unfold f_X12_manyPieces at hf
  refine go_aload_n hC dX12_manyPieces_0 rfl 0 rfl ?_
  refine go_getr hC (j := 27) (idx := 59) (nm := "wayMany") (ds := "[I") (b_43 _) rfl rfl hn12 (Nat.le_of_ble_eq_true rfl) rfl rfl (List.mem_cons_of_mem _ (List.mem_append_left _ (List.mem_of_getElem? (i := 0) rfl))) (Or.inl rfl) dX12_manyPieces_1 ?_
  refine go_iload_n hC dX12_manyPieces_4 rfl 1 rfl ?_
  obtain ⟨g_1, hf⟩ := ga_e hf
  refine go_iald hC (b_60 _) g_1 dX12_manyPieces_5 ?_
  refine go_aload_n hC dX12_manyPieces_6 rfl 0 rfl ?_
  refine go_getr hC (j := 25) (idx := 53) (nm := "wayKind") (ds := "[I") (b_43 _) rfl rfl hn12 (Nat.le_of_ble_eq_true rfl) rfl rfl (List.mem_cons_of_mem _ (List.mem_append_left _ (List.mem_of_getElem? (i := 1) rfl))) (Or.inl rfl) dX12_manyPieces_7 ?_
  refine go_iload_n hC dX12_manyPieces_10 rfl 1 rfl ?_
  obtain ⟨g_2, hf⟩ := ga_e hf
  refine go_iald hC (b_58 _) g_2 dX12_manyPieces_11 ?_
  refine go_if_le hC dX12_manyPieces_12 (tgt := 19) (by decide) (fun c_3 => ?_) (fun c_3 => ?_)
  · replace hf := if_t c_3 hf
    refine go_iconst hC dX12_manyPieces_19 k1_0 ?_
    refine go_iadd hC dX12_manyPieces_20 ?_
    obtain rfl := so_1 hf
    exact hret _ _ rfl dX12_manyPieces_21
  · replace hf := if_f c_3 hf
    refine go_iconst hC dX12_manyPieces_15 k1_1 ?_
    refine go_goto hC dX12_manyPieces_16 (tgt := 20) (by decide) ?_
    refine go_iadd hC dX12_manyPieces_20 ?_
    obtain rfl := so_1 hf
    exact hret _ _ rfl dX12_manyPieces_21
def f_X12_ofWay (x1 : Int32) (x2 : Int32) (h : PH) : Option (Int32) :=
  bd_1 (f_X12_noWay x1 h) fun r_1 =>
  if r_1 = 0 then (
  if x2 = 0 then (
  ga_i x1 6 (
  some (h.1 58 x1.toNatClampNeg)))
  else (
  if x2 = 1 then (
  ga_i x1 6 (
  some (h.1 59 x1.toNatClampNeg)))
  else (
  if x2 = 2 then (
  ga_i x1 6 (
  some (h.1 60 x1.toNatClampNeg)))
  else (
  if x2 = 3 then (
  bd_1 (f_X12_manyPieces x1 h) fun r_9 =>
  some r_9)
  else (
  ga_i x1 6 (
  bd_1 (f_X12_in x2.toInt64 10 (9 + ((h.1 60 x1.toNatClampNeg).toInt64)) h) fun r_11 =>
  if r_11 = 0 then (
  some (-2))
  else (
  ga_i (((6 * x1) + x2) - 10) 36 (
  some (h.1 61 (((6 * x1) + x2) - 10).toNatClampNeg)))))))))
  else (
  some (-1))
theorem e_X12_ofWay : yX12_ofWay.cls = RX12 ∧ yX12_ofWay.cls ≠ "java/lang/invoke/MethodHandle" ∧ yX12_ofWay.cls ≠ "java/lang/invoke/VarHandle" ∧ (parseMethodDescriptor yX12_ofWay.desc).map (fun d => d.parameters.length) = some 2 := by decide +kernel
set_option maxRecDepth 100000 in
set_option maxHeartbeats 4000000 in
theorem c_X12_ofWay (x1 : Int32) (x2 : Int32) (h : PH) (r : Int32) (hf : f_X12_ofWay x1 x2 h = some r) : Con yX12_ofWay wsX12_ofWay (rm_d 2) l0_B [.ref 43, .int x1, .int x2] h (some (.int r)) h := by
  have hn12 : ∀ w ∈ wsX120, w ∈ wsX12_ofWay := (fun _ hw => (List.mem_cons_of_mem _ (List.mem_append_right _ hw)))
  refine con_i (ty := .int) (cc := cX12_ofWay) (nL := 3) (by decide) rfl (Nat.le_of_ble_eq_true rfl) ?_
  intro C hC hret
  change Go l0_B C 0 0 0 [(0, .ref 43), (1, .int x1), (2, .int x2)] [] h
  unfold f_X12_ofWay at hf
  refine go_aload_n hC dX12_ofWay_0 rfl 0 rfl ?_
  refine go_iload_n hC dX12_ofWay_1 rfl 1 rfl ?_
  obtain ⟨r_1, hc, hf⟩ := bd_e1 hf
  refine go_callV hC (c_X12_noWay x1 h r_1 hc) gX12_ofWay_X12_noWay rfl ⟨rfl, rfl⟩ 1 e_X12_noWay ⟨Nat.le_of_ble_eq_true rfl, Nat.le_of_ble_eq_true rfl⟩ (b_43 _) rfl rfl (st := []) (st1 := [.int r_1]) rfl rfl (Nat.le_of_ble_eq_true rfl) ⟨Nat.zero_le _, Nat.zero_le _⟩ dX12_ofWay_2 ?_
  refine go_if_eq hC dX12_ofWay_5 (tgt := 10) (by decide) (fun c_14 => ?_) (fun c_14 => ?_)
  · replace hf := if_t c_14 hf
    refine go_iload_n hC dX12_ofWay_10 rfl 2 rfl ?_
    by_cases c_2 : x2 = 0
    · replace hf := if_t c_2 hf
      refine go_tab hC dX12_ofWay_11 c_2 (off := 29) (by decide) (by decide) (by decide) (tgt := 40) (by decide) ?_
      refine go_aload_n hC dX12_ofWay_40 rfl 0 rfl ?_
      refine go_getr hC (j := 25) (idx := 53) (nm := "wayKind") (ds := "[I") (b_43 _) rfl rfl hn12 (Nat.le_of_ble_eq_true rfl) rfl rfl (List.mem_cons_of_mem _ (List.mem_append_left _ (List.mem_of_getElem? (i := 0) rfl))) (Or.inl rfl) dX12_ofWay_41 ?_
      refine go_iload_n hC dX12_ofWay_44 rfl 1 rfl ?_
      obtain ⟨g_6, hf⟩ := ga_e hf
      refine go_iald hC (b_58 _) g_6 dX12_ofWay_45 ?_
      obtain rfl := so_1 hf
      exact hret _ _ rfl dX12_ofWay_46
    · replace hf := if_f c_2 hf
      by_cases c_3 : x2 = 1
      · replace hf := if_t c_3 hf
        refine go_tab hC dX12_ofWay_11 c_3 (off := 36) (by decide) (by decide) (by decide) (tgt := 47) (by decide) ?_
        refine go_aload_n hC dX12_ofWay_47 rfl 0 rfl ?_
        refine go_getr hC (j := 26) (idx := 56) (nm := "wayFuse") (ds := "[I") (b_43 _) rfl rfl hn12 (Nat.le_of_ble_eq_true rfl) rfl rfl (List.mem_cons_of_mem _ (List.mem_append_left _ (List.mem_of_getElem? (i := 1) rfl))) (Or.inl rfl) dX12_ofWay_48 ?_
        refine go_iload_n hC dX12_ofWay_51 rfl 1 rfl ?_
        obtain ⟨g_7, hf⟩ := ga_e hf
        refine go_iald hC (b_59 _) g_7 dX12_ofWay_52 ?_
        obtain rfl := so_1 hf
        exact hret _ _ rfl dX12_ofWay_53
      · replace hf := if_f c_3 hf
        by_cases c_4 : x2 = 2
        · replace hf := if_t c_4 hf
          refine go_tab hC dX12_ofWay_11 c_4 (off := 43) (by decide) (by decide) (by decide) (tgt := 54) (by decide) ?_
          refine go_aload_n hC dX12_ofWay_54 rfl 0 rfl ?_
          refine go_getr hC (j := 27) (idx := 59) (nm := "wayMany") (ds := "[I") (b_43 _) rfl rfl hn12 (Nat.le_of_ble_eq_true rfl) rfl rfl (List.mem_cons_of_mem _ (List.mem_append_left _ (List.mem_of_getElem? (i := 2) rfl))) (Or.inl rfl) dX12_ofWay_55 ?_
          refine go_iload_n hC dX12_ofWay_58 rfl 1 rfl ?_
          obtain ⟨g_8, hf⟩ := ga_e hf
          refine go_iald hC (b_60 _) g_8 dX12_ofWay_59 ?_
          obtain rfl := so_1 hf
          exact hret _ _ rfl dX12_ofWay_60
        · replace hf := if_f c_4 hf
          by_cases c_5 : x2 = 3
          · replace hf := if_t c_5 hf
            refine go_tab hC dX12_ofWay_11 c_5 (off := 50) (by decide) (by decide) (by decide) (tgt := 61) (by decide) ?_
            refine go_aload_n hC dX12_ofWay_61 rfl 0 rfl ?_
            refine go_iload_n hC dX12_ofWay_62 rfl 1 rfl ?_
            obtain ⟨r_9, hc, hf⟩ := bd_e1 hf
            refine go_callV hC (c_X12_manyPieces x1 h r_9 hc) gX12_ofWay_X12_manyPieces rfl ⟨rfl, rfl⟩ 1 e_X12_manyPieces ⟨Nat.le_of_ble_eq_true rfl, Nat.le_of_ble_eq_true rfl⟩ (b_43 _) rfl rfl (st := []) (st1 := [.int r_9]) rfl rfl (Nat.le_of_ble_eq_true rfl) ⟨Nat.zero_le _, Nat.zero_le _⟩ dX12_ofWay_63 ?_
            obtain rfl := so_1 hf
            exact hret _ _ rfl dX12_ofWay_66
          · replace hf := if_f c_5 hf
            refine go_tabOut hC dX12_ofWay_11 (tb_4 c_2 c_3 c_4 c_5) (tgt := 67) (by decide) ?_
            refine go_iload_n hC dX12_ofWay_67 rfl 2 rfl ?_
            refine go_i2l hC dX12_ofWay_68 ?_
            refine go_ldc2 hC (v := 10) (List.mem_cons_of_mem _ (List.mem_append_left _ (List.mem_of_getElem? (i := 3) rfl))) dX12_ofWay_69 ?_
            refine go_ldc2 hC (v := 9) (List.mem_cons_of_mem _ (List.mem_append_left _ (List.mem_of_getElem? (i := 4) rfl))) dX12_ofWay_72 ?_
            refine go_aload_n hC dX12_ofWay_75 rfl 0 rfl ?_
            refine go_getr hC (j := 27) (idx := 59) (nm := "wayMany") (ds := "[I") (b_43 _) rfl rfl hn12 (Nat.le_of_ble_eq_true rfl) rfl rfl (List.mem_cons_of_mem _ (List.mem_append_left _ (List.mem_of_getElem? (i := 2) rfl))) (Or.inl rfl) dX12_ofWay_76 ?_
            refine go_iload_n hC dX12_ofWay_79 rfl 1 rfl ?_
            obtain ⟨g_10, hf⟩ := ga_e hf
            refine go_iald hC (b_60 _) g_10 dX12_ofWay_80 ?_
            refine go_i2l hC dX12_ofWay_81 ?_
            refine go_ladd hC dX12_ofWay_82 ?_
            obtain ⟨r_11, hc, hf⟩ := bd_e1 hf
            refine go_callS hC (c_X12_in x2.toInt64 10 (9 + ((h.1 60 x1.toNatClampNeg).toInt64)) h r_11 hc) gX12_ofWay_X12_in rfl ⟨rfl, rfl⟩ 3 e_X12_in ⟨Nat.le_of_ble_eq_true rfl, Nat.le_of_ble_eq_true rfl⟩ rfl (st := []) (st1 := [.int r_11]) rfl rfl (Nat.le_of_ble_eq_true rfl) ⟨Nat.zero_le _, Nat.zero_le _⟩ dX12_ofWay_83 ?_
            refine go_if_eq hC dX12_ofWay_86 (tgt := 106) (by decide) (fun c_13 => ?_) (fun c_13 => ?_)
            · replace hf := if_t c_13 hf
              refine go_bipush hC dX12_ofWay_106 k8_m2 ?_
              obtain rfl := so_1 hf
              exact hret _ _ rfl dX12_ofWay_108
            · replace hf := if_f c_13 hf
              refine go_aload_n hC dX12_ofWay_89 rfl 0 rfl ?_
              refine go_getr hC (j := 28) (idx := 62) (nm := "wayPoint") (ds := "[I") (b_43 _) rfl rfl hn12 (Nat.le_of_ble_eq_true rfl) rfl rfl (List.mem_cons_of_mem _ (List.mem_append_left _ (List.mem_of_getElem? (i := 5) rfl))) (Or.inl rfl) dX12_ofWay_90 ?_
              refine go_bipush hC dX12_ofWay_93 k8_6 ?_
              refine go_iload_n hC dX12_ofWay_95 rfl 1 rfl ?_
              refine go_imul hC dX12_ofWay_96 ?_
              refine go_iload_n hC dX12_ofWay_97 rfl 2 rfl ?_
              refine go_iadd hC dX12_ofWay_98 ?_
              refine go_bipush hC dX12_ofWay_99 k8_10 ?_
              refine go_isub hC dX12_ofWay_101 ?_
              obtain ⟨g_12, hf⟩ := ga_e hf
              refine go_iald hC (b_61 _) g_12 dX12_ofWay_102 ?_
              refine go_goto hC dX12_ofWay_103 (tgt := 108) (by decide) ?_
              obtain rfl := so_1 hf
              exact hret _ _ rfl dX12_ofWay_108
  · replace hf := if_f c_14 hf
    refine go_iconst hC dX12_ofWay_8 k1_m1 ?_
    obtain rfl := so_1 hf
    exact hret _ _ rfl dX12_ofWay_9
def f_X12_cornerOf (x1 : Int32) (x2 : Int32) (h : PH) : Option (Int32) :=
  if x2 = 0 then (
  some (h.1 43 2))
  else (
  ga_i x1 6 (
  if x2 ≤ (h.1 60 x1.toNatClampNeg) then (
  ga_i (((6 * x1) + x2) - 1) 36 (
  ga_i (h.1 61 (((6 * x1) + x2) - 1).toNatClampNeg) 8 (
  some (h.1 54 (h.1 61 (((6 * x1) + x2) - 1).toNatClampNeg).toNatClampNeg))))
  else (
  some (h.1 43 2))))
theorem e_X12_cornerOf : yX12_cornerOf.cls = RX12 ∧ yX12_cornerOf.cls ≠ "java/lang/invoke/MethodHandle" ∧ yX12_cornerOf.cls ≠ "java/lang/invoke/VarHandle" ∧ (parseMethodDescriptor yX12_cornerOf.desc).map (fun d => d.parameters.length) = some 2 := by decide +kernel
set_option maxRecDepth 100000 in
set_option maxHeartbeats 4000000 in
theorem c_X12_cornerOf (x1 : Int32) (x2 : Int32) (h : PH) (r : Int32) (hf : f_X12_cornerOf x1 x2 h = some r) : Con yX12_cornerOf wsX12_cornerOf (rm_d 0) l0_B [.ref 43, .int x1, .int x2] h (some (.int r)) h := by
  have hn12 : ∀ w ∈ wsX120, w ∈ wsX12_cornerOf := (fun _ hw => (List.mem_cons_of_mem _ (List.mem_append_right _ hw)))
  refine con_i (ty := .int) (cc := cX12_cornerOf) (nL := 3) (by decide) rfl (Nat.le_of_ble_eq_true rfl) ?_
  intro C hC hret
  change Go l0_B C 0 0 0 [(0, .ref 43), (1, .int x1), (2, .int x2)] [] h
  unfold f_X12_cornerOf at hf
  refine go_iload_n hC dX12_cornerOf_0 rfl 2 rfl ?_
  refine go_if_eq hC dX12_cornerOf_1 (tgt := 14) (by decide) (fun c_5 => ?_) (fun c_5 => ?_)
  · replace hf := if_t c_5 hf
    refine go_aload_n hC dX12_cornerOf_14 rfl 0 rfl ?_
    refine go_geti hC (j := 2) (idx := 167) (nm := "boxAt") (ds := "I") (b_43 _) rfl rfl hn12 (Nat.le_of_ble_eq_true rfl) rfl rfl (List.mem_cons_of_mem _ (List.mem_append_left _ (List.mem_of_getElem? (i := 1) rfl))) (Or.inl rfl) dX12_cornerOf_15 ?_
    refine go_goto hC dX12_cornerOf_18 (tgt := 39) (by decide) ?_
    obtain rfl := so_1 hf
    exact hret _ _ rfl dX12_cornerOf_39
  · replace hf := if_f c_5 hf
    refine go_iload_n hC dX12_cornerOf_4 rfl 2 rfl ?_
    refine go_aload_n hC dX12_cornerOf_5 rfl 0 rfl ?_
    refine go_getr hC (j := 27) (idx := 59) (nm := "wayMany") (ds := "[I") (b_43 _) rfl rfl hn12 (Nat.le_of_ble_eq_true rfl) rfl rfl (List.mem_cons_of_mem _ (List.mem_append_left _ (List.mem_of_getElem? (i := 0) rfl))) (Or.inl rfl) dX12_cornerOf_6 ?_
    refine go_iload_n hC dX12_cornerOf_9 rfl 1 rfl ?_
    obtain ⟨g_1, hf⟩ := ga_e hf
    refine go_iald hC (b_60 _) g_1 dX12_cornerOf_10 ?_
    refine go_icmp_le hC dX12_cornerOf_11 (tgt := 21) (by decide) (fun c_4 => ?_) (fun c_4 => ?_)
    · replace hf := if_t c_4 hf
      refine go_aload_n hC dX12_cornerOf_21 rfl 0 rfl ?_
      refine go_getr hC (j := 20) (idx := 41) (nm := "placeOf") (ds := "[I") (b_43 _) rfl rfl hn12 (Nat.le_of_ble_eq_true rfl) rfl rfl (List.mem_cons_of_mem _ (List.mem_append_left _ (List.mem_of_getElem? (i := 2) rfl))) (Or.inl rfl) dX12_cornerOf_22 ?_
      refine go_aload_n hC dX12_cornerOf_25 rfl 0 rfl ?_
      refine go_getr hC (j := 28) (idx := 62) (nm := "wayPoint") (ds := "[I") (b_43 _) rfl rfl hn12 (Nat.le_of_ble_eq_true rfl) rfl rfl (List.mem_cons_of_mem _ (List.mem_append_left _ (List.mem_of_getElem? (i := 3) rfl))) (Or.inl rfl) dX12_cornerOf_26 ?_
      refine go_bipush hC dX12_cornerOf_29 k8_6 ?_
      refine go_iload_n hC dX12_cornerOf_31 rfl 1 rfl ?_
      refine go_imul hC dX12_cornerOf_32 ?_
      refine go_iload_n hC dX12_cornerOf_33 rfl 2 rfl ?_
      refine go_iadd hC dX12_cornerOf_34 ?_
      refine go_iconst hC dX12_cornerOf_35 k1_1 ?_
      refine go_isub hC dX12_cornerOf_36 ?_
      obtain ⟨g_2, hf⟩ := ga_e hf
      refine go_iald hC (b_61 _) g_2 dX12_cornerOf_37 ?_
      obtain ⟨g_3, hf⟩ := ga_e hf
      refine go_iald hC (b_54 _) g_3 dX12_cornerOf_38 ?_
      obtain rfl := so_1 hf
      exact hret _ _ rfl dX12_cornerOf_39
    · replace hf := if_f c_4 hf
      refine go_aload_n hC dX12_cornerOf_14 rfl 0 rfl ?_
      refine go_geti hC (j := 2) (idx := 167) (nm := "boxAt") (ds := "I") (b_43 _) rfl rfl hn12 (Nat.le_of_ble_eq_true rfl) rfl rfl (List.mem_cons_of_mem _ (List.mem_append_left _ (List.mem_of_getElem? (i := 1) rfl))) (Or.inl rfl) dX12_cornerOf_15 ?_
      refine go_goto hC dX12_cornerOf_18 (tgt := 39) (by decide) ?_
      obtain rfl := so_1 hf
      exact hret _ _ rfl dX12_cornerOf_39
def f_X12_pieceFar (x1 : Int32) (x2 : Int32) (h : PH) : Option (Int32) :=
  bd_1 (f_X12_cornerOf x1 x2 h) fun r_1 =>
  bd_1 (f_X12_cornerOf x1 (x2 + 1) h) fun r_2 =>
  ga_i ((8 * r_1) + r_2) 64 (
  some (h.1 53 ((8 * r_1) + r_2).toNatClampNeg))
theorem e_X12_pieceFar : yX12_pieceFar.cls = RX12 ∧ yX12_pieceFar.cls ≠ "java/lang/invoke/MethodHandle" ∧ yX12_pieceFar.cls ≠ "java/lang/invoke/VarHandle" ∧ (parseMethodDescriptor yX12_pieceFar.desc).map (fun d => d.parameters.length) = some 2 := by decide +kernel
set_option maxRecDepth 100000 in
set_option maxHeartbeats 4000000 in
theorem c_X12_pieceFar (x1 : Int32) (x2 : Int32) (h : PH) (r : Int32) (hf : f_X12_pieceFar x1 x2 h = some r) : Con yX12_pieceFar wsX12_pieceFar (rm_d 1) l0_B [.ref 43, .int x1, .int x2] h (some (.int r)) h := by
  have hn12 : ∀ w ∈ wsX120, w ∈ wsX12_pieceFar := (fun _ hw => (List.mem_cons_of_mem _ (List.mem_append_right _ hw)))
  refine con_i (ty := .int) (cc := cX12_pieceFar) (nL := 3) (by decide) rfl (Nat.le_of_ble_eq_true rfl) ?_
  intro C hC hret
  change Go l0_B C 0 0 0 [(0, .ref 43), (1, .int x1), (2, .int x2)] [] h
  unfold f_X12_pieceFar at hf
  refine go_aload_n hC dX12_pieceFar_0 rfl 0 rfl ?_
  refine go_getr hC (j := 18) (idx := 38) (nm := "far") (ds := "[I") (b_43 _) rfl rfl hn12 (Nat.le_of_ble_eq_true rfl) rfl rfl (List.mem_cons_of_mem _ (List.mem_append_left _ (List.mem_of_getElem? (i := 0) rfl))) (Or.inl rfl) dX12_pieceFar_1 ?_
  refine go_bipush hC dX12_pieceFar_4 k8_8 ?_
  refine go_aload_n hC dX12_pieceFar_6 rfl 0 rfl ?_
  refine go_iload_n hC dX12_pieceFar_7 rfl 1 rfl ?_
  refine go_iload_n hC dX12_pieceFar_8 rfl 2 rfl ?_
  obtain ⟨r_1, hc, hf⟩ := bd_e1 hf
  refine go_callV hC (c_X12_cornerOf x1 x2 h r_1 hc) gX12_pieceFar_X12_cornerOf rfl ⟨rfl, rfl⟩ 2 e_X12_cornerOf ⟨Nat.le_of_ble_eq_true rfl, Nat.le_of_ble_eq_true rfl⟩ (b_43 _) rfl rfl (st := [.int 8, .ref 53]) (st1 := [.int r_1, .int 8, .ref 53]) rfl rfl (Nat.le_of_ble_eq_true rfl) ⟨Nat.zero_le _, Nat.zero_le _⟩ dX12_pieceFar_9 ?_
  refine go_imul hC dX12_pieceFar_12 ?_
  refine go_aload_n hC dX12_pieceFar_13 rfl 0 rfl ?_
  refine go_iload_n hC dX12_pieceFar_14 rfl 1 rfl ?_
  refine go_iload_n hC dX12_pieceFar_15 rfl 2 rfl ?_
  refine go_iconst hC dX12_pieceFar_16 k1_1 ?_
  refine go_iadd hC dX12_pieceFar_17 ?_
  obtain ⟨r_2, hc, hf⟩ := bd_e1 hf
  refine go_callV hC (c_X12_cornerOf x1 (x2 + 1) h r_2 hc) gX12_pieceFar_X12_cornerOf rfl ⟨rfl, rfl⟩ 2 e_X12_cornerOf ⟨Nat.le_of_ble_eq_true rfl, Nat.le_of_ble_eq_true rfl⟩ (b_43 _) rfl rfl (st := [.int (8 * r_1), .ref 53]) (st1 := [.int r_2, .int (8 * r_1), .ref 53]) rfl rfl (Nat.le_of_ble_eq_true rfl) ⟨Nat.zero_le _, Nat.zero_le _⟩ dX12_pieceFar_18 ?_
  refine go_iadd hC dX12_pieceFar_21 ?_
  obtain ⟨g_3, hf⟩ := ga_e hf
  refine go_iald hC (b_53 _) g_3 dX12_pieceFar_22 ?_
  obtain rfl := so_1 hf
  exact hret _ _ rfl dX12_pieceFar_23
def lb_X12_cableOf_5 (x1 : Int32) (h : PH) (x2 : Int64) (x4 : Int32) : Option ((Int64 × Int32) ⊕ ((Int64) ⊕ (Int64 × Int32))) :=
  bd_1 (f_X12_manyPieces x1 h) fun r_9 =>
  if r_9 ≤ x4 then (
  some (.inr (.inr (x2, x4))))
  else (
  bd_1 (f_X12_pieceFar x1 x4 h) fun r_10 =>
  if r_10 < 10000000 then (
  bd_1 (f_X12_pieceFar x1 x4 h) fun r_11 =>
  bd_1 (f_X12_pieceFar x1 x4 h) fun r_12 =>
  lt_b (x2 + (((r_11 / 1000).toInt64) + (1000000 * ((r_12 - r_12 / 1000 * 1000).toInt64)))) fun x2_13 =>
  lt_b (x4 + 1) fun x4_14 =>
  some (.inl (x2_13, x4_14)))
  else (
  some (.inr (.inl (-1)))))
def f_X12_cableOf (x1 : Int32) (h : PH) : Option (Int64) :=
  bd_1 (lp_f (fun s => lb_X12_cableOf_5 x1 h s.1 s.2) fu_l (0, 0)) fun s_17 => sw_b s_17 (fun r_19 => some r_19) fun e_18 =>
  some e_18.1
set_option maxRecDepth 100000 in
set_option maxHeartbeats 4000000 in
theorem lw_X12_cableOf_5 {C : GC} (hC : Cx C cX12_cableOf 5 wsX12_cableOf RX12 (some .long) (rm_d 2)) (x1 : Int32) (h : PH) : ∀ (n9 : Nat) (x2 : Int64) (x4 : Int32) (y : (Int64) ⊕ (Int64 × Int32)), lp_f (fun s => lb_X12_cableOf_5 x1 h s.1 s.2) n9 (x2, x4) = some y → ∀ (hk : match y with | .inl r => (∀ (pc : Nat) (L : List (Nat × Value)), decode cX12_cableOf pc = .ok (.lreturn, 1) → Go l0_B C 0 0 pc L [.long r] h) | .inr e => Go l0_B C 0 0 69 [(2, .long e.1)] [] h), Go l0_B C 0 0 5 [(0, .ref 43), (1, .int x1), (2, .long x2), (4, .int x4)] [] h := by

  intro n9
  induction n9 with
  | zero =>
    intro x2 x4 y hlp
    cases hlp
  | succ n9 ih =>
    intro x2 x4 y hlp hk
    obtain ⟨k9, z, hk9, hf, hy⟩ := lp_e hlp
    cases hk9
    replace hf : lb_X12_cableOf_5 x1 h x2 x4 = some z := hf
    unfold lb_X12_cableOf_5 at hf
    refine go_iload hC dX12_cableOf_5 3 rfl ?_
    refine go_aload_n hC dX12_cableOf_7 rfl 0 rfl ?_
    refine go_iload_n hC dX12_cableOf_8 rfl 1 rfl ?_
    obtain ⟨r_9, hc, hf⟩ := bd_e1 hf
    refine go_callV hC (c_X12_manyPieces x1 h r_9 hc) gX12_cableOf_X12_manyPieces rfl ⟨rfl, rfl⟩ 1 e_X12_manyPieces ⟨Nat.le_of_ble_eq_true rfl, Nat.le_of_ble_eq_true rfl⟩ (b_43 _) rfl rfl (st := [.int x4]) (st1 := [.int r_9, .int x4]) rfl rfl (Nat.le_of_ble_eq_true rfl) ⟨Nat.zero_le _, Nat.zero_le _⟩ dX12_cableOf_9 ?_
    refine go_icmp_ge hC dX12_cableOf_12 (tgt := 69) (by decide) (fun c_16 => ?_) (fun c_16 => ?_)
    · replace hf := if_t c_16 hf
      obtain rfl := so_1 hf
      obtain rfl := lp_x hy
      refine go_sub [2] rfl ?_
      exact hk
    · replace hf := if_f c_16 hf
      refine go_aload_n hC dX12_cableOf_15 rfl 0 rfl ?_
      refine go_iload_n hC dX12_cableOf_16 rfl 1 rfl ?_
      refine go_iload hC dX12_cableOf_17 3 rfl ?_
      obtain ⟨r_10, hc, hf⟩ := bd_e1 hf
      refine go_callV hC (c_X12_pieceFar x1 x4 h r_10 hc) gX12_cableOf_X12_pieceFar rfl ⟨rfl, rfl⟩ 2 e_X12_pieceFar ⟨Nat.le_of_ble_eq_true rfl, Nat.le_of_ble_eq_true rfl⟩ (b_43 _) rfl rfl (st := []) (st1 := [.int r_10]) rfl rfl (Nat.le_of_ble_eq_true rfl) ⟨Nat.zero_le _, Nat.zero_le _⟩ dX12_cableOf_19 ?_
      refine go_ldc hC (v := 10000000) (List.mem_cons_of_mem _ (List.mem_append_left _ (List.mem_of_getElem? (i := 0) rfl))) dX12_cableOf_22 ?_
      refine go_icmp_lt hC dX12_cableOf_24 (tgt := 31) (by decide) (fun c_15 => ?_) (fun c_15 => ?_)
      · replace hf := if_t c_15 hf
        refine go_lload_n hC dX12_cableOf_31 rfl 2 rfl ?_
        refine go_aload_n hC dX12_cableOf_32 rfl 0 rfl ?_
        refine go_iload_n hC dX12_cableOf_33 rfl 1 rfl ?_
        refine go_iload hC dX12_cableOf_34 3 rfl ?_
        obtain ⟨r_11, hc, hf⟩ := bd_e1 hf
        refine go_callV hC (c_X12_pieceFar x1 x4 h r_11 hc) gX12_cableOf_X12_pieceFar rfl ⟨rfl, rfl⟩ 2 e_X12_pieceFar ⟨Nat.le_of_ble_eq_true rfl, Nat.le_of_ble_eq_true rfl⟩ (b_43 _) rfl rfl (st := [.long x2]) (st1 := [.int r_11, .long x2]) rfl rfl (Nat.le_of_ble_eq_true rfl) ⟨Nat.zero_le _, Nat.zero_le _⟩ dX12_cableOf_36 ?_
        refine go_sipush hC dX12_cableOf_39 k16_1000 ?_
        refine go_idiv hC dX12_cableOf_42 (by decide) ?_
        refine go_i2l hC dX12_cableOf_43 ?_
        refine go_ldc2 hC (v := 1000000) (List.mem_cons_of_mem _ (List.mem_append_left _ (List.mem_of_getElem? (i := 2) rfl))) dX12_cableOf_44 ?_
        refine go_aload_n hC dX12_cableOf_47 rfl 0 rfl ?_
        refine go_iload_n hC dX12_cableOf_48 rfl 1 rfl ?_
        refine go_iload hC dX12_cableOf_49 3 rfl ?_
        obtain ⟨r_12, hc, hf⟩ := bd_e1 hf
        refine go_callV hC (c_X12_pieceFar x1 x4 h r_12 hc) gX12_cableOf_X12_pieceFar rfl ⟨rfl, rfl⟩ 2 e_X12_pieceFar ⟨Nat.le_of_ble_eq_true rfl, Nat.le_of_ble_eq_true rfl⟩ (b_43 _) rfl rfl (st := [.long 1000000, .long ((r_11 / 1000).toInt64), .long x2]) (st1 := [.int r_12, .long 1000000, .long ((r_11 / 1000).toInt64), .long x2]) rfl rfl (Nat.le_of_ble_eq_true rfl) ⟨Nat.zero_le _, Nat.zero_le _⟩ dX12_cableOf_51 ?_
        refine go_sipush hC dX12_cableOf_54 k16_1000 ?_
        refine go_irem hC dX12_cableOf_57 (by decide) ?_
        refine go_i2l hC dX12_cableOf_58 ?_
        refine go_lmul hC dX12_cableOf_59 ?_
        refine go_ladd hC dX12_cableOf_60 ?_
        refine go_ladd hC dX12_cableOf_61 ?_
        obtain ⟨x2_13, ex2_13, hf⟩ := lt_e hf
        refine go_topl ex2_13 ?_
        refine go_lstore_n hC dX12_cableOf_62 rfl (Nat.le_of_ble_eq_true rfl) rfl ?_
        obtain ⟨x4_14, ex4_14, hf⟩ := lt_e hf
        refine go_iinc hC dX12_cableOf_63 3 rfl k1_1 ex4_14 (Nat.le_of_ble_eq_true rfl) rfl ?_
        refine go_goto hC dX12_cableOf_66 (tgt := 5) (by decide) ?_
        obtain rfl := so_1 hf
        refine go_sub [2, 3, 1, 0] rfl ?_
        exact ih x2_13 x4_14 _ (lp_c hy) hk
      · replace hf := if_f c_15 hf
        refine go_ldc2 hC (v := (-1)) (List.mem_cons_of_mem _ (List.mem_append_left _ (List.mem_of_getElem? (i := 1) rfl))) dX12_cableOf_27 ?_
        obtain rfl := so_1 hf
        obtain rfl := lp_x hy
        exact hk _ _ dX12_cableOf_30
theorem e_X12_cableOf : yX12_cableOf.cls = RX12 ∧ yX12_cableOf.cls ≠ "java/lang/invoke/MethodHandle" ∧ yX12_cableOf.cls ≠ "java/lang/invoke/VarHandle" ∧ (parseMethodDescriptor yX12_cableOf.desc).map (fun d => d.parameters.length) = some 1 := by decide +kernel
set_option maxRecDepth 100000 in
set_option maxHeartbeats 4000000 in
theorem c_X12_cableOf (x1 : Int32) (h : PH) (r : Int64) (hf : f_X12_cableOf x1 h = some r) : Con yX12_cableOf wsX12_cableOf (rm_d 2) l0_B [.ref 43, .int x1] h (some (.long r)) h := by

  refine con_l (cc := cX12_cableOf) (nL := 5) (by decide) rfl (Nat.le_of_ble_eq_true rfl) ?_
  intro C hC hret
  change Go l0_B C 0 0 0 [(0, .ref 43), (1, .int x1)] [] h
  unfold f_X12_cableOf at hf
  refine go_lconst hC dX12_cableOf_0 (v := 0) rfl ?_
  refine go_lstore_n hC dX12_cableOf_1 rfl (Nat.le_of_ble_eq_true rfl) rfl ?_
  refine go_iconst hC dX12_cableOf_2 k1_0 ?_
  refine go_istore hC dX12_cableOf_3 (Nat.le_of_ble_eq_true rfl) rfl ?_
  obtain ⟨s_17, hl, hf⟩ := bd_e1 hf
  refine go_sub [2, 3, 1, 0] rfl ?_
  refine lw_X12_cableOf_5 hC x1 h _ 0 0 s_17 hl ?_
  rcases s_17 with r_19 | e_18
  · replace hf : some r_19 = some _ := hf
    cases hf
    exact hret
  · replace hf := sw_r hf
    refine go_lload_n hC dX12_cableOf_69 rfl 0 rfl ?_
    obtain rfl := so_1 hf
    exact hret _ _ dX12_cableOf_70
def f_X12_cable (x1 : Int32) (x2 : Int32) (h : PH) : Option (Int32) :=
  bd_1 (f_X12_noWay x1 h) fun r_1 =>
  if r_1 = 0 then (
  bd_1 (f_X12_in x2.toInt64 0 1 h) fun r_2 =>
  if r_2 = 0 then (
  some (-2))
  else (
  bd_1 (f_X12_cableOf x1 h) fun r_3 =>
  if 0 ≤ (lg_cmp r_3 0) then (
  if x2 = 1 then (
  some ((r_3 / 1000000).toInt32))
  else (
  ga_i x1 6 (
  if (h.1 58 x1.toNatClampNeg) = 2 then (
  some (((r_3 - r_3 / 1000000 * 1000000).toInt32) * 2))
  else (
  some (((r_3 - r_3 / 1000000 * 1000000).toInt32) * 1)))))
  else (
  some (-3))))
  else (
  some (-1))
theorem e_X12_cable : yX12_cable.cls = RX12 ∧ yX12_cable.cls ≠ "java/lang/invoke/MethodHandle" ∧ yX12_cable.cls ≠ "java/lang/invoke/VarHandle" ∧ (parseMethodDescriptor yX12_cable.desc).map (fun d => d.parameters.length) = some 2 := by decide +kernel
set_option maxRecDepth 100000 in
set_option maxHeartbeats 4000000 in
theorem c_X12_cable (x1 : Int32) (x2 : Int32) (h : PH) (r : Int32) (hf : f_X12_cable x1 x2 h = some r) : Con yX12_cable wsX12_cable (rm_d 3) l0_B [.ref 43, .int x1, .int x2] h (some (.int r)) h := by
  have hn12 : ∀ w ∈ wsX120, w ∈ wsX12_cable := (fun _ hw => (List.mem_cons_of_mem _ (List.mem_append_right _ hw)))
  refine con_i (ty := .int) (cc := cX12_cable) (nL := 5) (by decide) rfl (Nat.le_of_ble_eq_true rfl) ?_
  intro C hC hret
  change Go l0_B C 0 0 0 [(0, .ref 43), (1, .int x1), (2, .int x2)] [] h
  unfold f_X12_cable at hf
  refine go_aload_n hC dX12_cable_0 rfl 0 rfl ?_
  refine go_iload_n hC dX12_cable_1 rfl 1 rfl ?_
  obtain ⟨r_1, hc, hf⟩ := bd_e1 hf
  refine go_callV hC (c_X12_noWay x1 h r_1 hc) gX12_cable_X12_noWay rfl ⟨rfl, rfl⟩ 1 e_X12_noWay ⟨Nat.le_of_ble_eq_true rfl, Nat.le_of_ble_eq_true rfl⟩ (b_43 _) rfl rfl (st := []) (st1 := [.int r_1]) rfl rfl (Nat.le_of_ble_eq_true rfl) ⟨Nat.zero_le _, Nat.zero_le _⟩ dX12_cable_2 ?_
  refine go_if_eq hC dX12_cable_5 (tgt := 10) (by decide) (fun c_9 => ?_) (fun c_9 => ?_)
  · replace hf := if_t c_9 hf
    refine go_iload_n hC dX12_cable_10 rfl 2 rfl ?_
    refine go_i2l hC dX12_cable_11 ?_
    refine go_lconst hC dX12_cable_12 (v := 0) rfl ?_
    refine go_lconst hC dX12_cable_13 (v := 1) rfl ?_
    obtain ⟨r_2, hc, hf⟩ := bd_e1 hf
    refine go_callS hC (c_X12_in x2.toInt64 0 1 h r_2 hc) gX12_cable_X12_in rfl ⟨rfl, rfl⟩ 3 e_X12_in ⟨Nat.le_of_ble_eq_true rfl, Nat.le_of_ble_eq_true rfl⟩ rfl (st := []) (st1 := [.int r_2]) rfl rfl (Nat.le_of_ble_eq_true rfl) ⟨Nat.zero_le _, Nat.zero_le _⟩ dX12_cable_14 ?_
    refine go_if_ne hC dX12_cable_17 (tgt := 23) (by decide) (fun c_8 => ?_) (fun c_8 => ?_)
    · replace hf := if_f c_8 hf
      refine go_aload_n hC dX12_cable_23 rfl 0 rfl ?_
      refine go_iload_n hC dX12_cable_24 rfl 1 rfl ?_
      obtain ⟨r_3, hc, hf⟩ := bd_e1 hf
      refine go_callV hC (c_X12_cableOf x1 h r_3 hc) gX12_cable_X12_cableOf rfl ⟨rfl, rfl⟩ 1 e_X12_cableOf ⟨Nat.le_of_ble_eq_true rfl, Nat.le_of_ble_eq_true rfl⟩ (b_43 _) rfl rfl (st := []) (st1 := [.long r_3]) rfl rfl (Nat.le_of_ble_eq_true rfl) ⟨Nat.zero_le _, Nat.zero_le _⟩ dX12_cable_25 ?_
      refine go_lstore_n hC dX12_cable_28 rfl (Nat.le_of_ble_eq_true rfl) rfl ?_
      refine go_lload_n hC dX12_cable_29 rfl 0 rfl ?_
      refine go_lconst hC dX12_cable_30 (v := 0) rfl ?_
      refine go_lcmp hC dX12_cable_31 ?_
      refine go_if_ge hC dX12_cable_32 (tgt := 38) (by decide) (fun c_7 => ?_) (fun c_7 => ?_)
      · replace hf := if_t c_7 hf
        refine go_iload_n hC dX12_cable_38 rfl 3 rfl ?_
        refine go_iconst hC dX12_cable_39 k1_1 ?_
        refine go_icmp_ne hC dX12_cable_40 (tgt := 52) (by decide) (fun c_6 => ?_) (fun c_6 => ?_)
        · replace hf := if_f c_6 hf
          refine go_lload_n hC dX12_cable_52 rfl 0 rfl ?_
          refine go_ldc2 hC (v := 1000000) (List.mem_cons_of_mem _ (List.mem_append_left _ (List.mem_append_left _ (List.mem_of_getElem? (i := 0) rfl)))) dX12_cable_53 ?_
          refine go_lrem hC dX12_cable_56 (by decide) ?_
          refine go_l2i hC dX12_cable_57 ?_
          refine go_aload_n hC dX12_cable_58 rfl 1 rfl ?_
          refine go_getr hC (j := 25) (idx := 53) (nm := "wayKind") (ds := "[I") (b_43 _) rfl rfl hn12 (Nat.le_of_ble_eq_true rfl) rfl rfl (List.mem_cons_of_mem _ (List.mem_append_left _ (List.mem_append_left _ (List.mem_of_getElem? (i := 1) rfl)))) (Or.inl rfl) dX12_cable_59 ?_
          refine go_iload_n hC dX12_cable_62 rfl 2 rfl ?_
          obtain ⟨g_4, hf⟩ := ga_e hf
          refine go_iald hC (b_58 _) g_4 dX12_cable_63 ?_
          refine go_iconst hC dX12_cable_64 k1_2 ?_
          refine go_icmp_ne hC dX12_cable_65 (tgt := 72) (by decide) (fun c_5 => ?_) (fun c_5 => ?_)
          · replace hf := if_f c_5 hf
            refine go_iconst hC dX12_cable_72 k1_1 ?_
            refine go_imul hC dX12_cable_73 ?_
            obtain rfl := so_1 hf
            exact hret _ _ rfl dX12_cable_74
          · replace hf := if_t c_5 hf
            refine go_iconst hC dX12_cable_68 k1_2 ?_
            refine go_goto hC dX12_cable_69 (tgt := 73) (by decide) ?_
            refine go_imul hC dX12_cable_73 ?_
            obtain rfl := so_1 hf
            exact hret _ _ rfl dX12_cable_74
        · replace hf := if_t c_6 hf
          refine go_lload_n hC dX12_cable_43 rfl 0 rfl ?_
          refine go_ldc2 hC (v := 1000000) (List.mem_cons_of_mem _ (List.mem_append_left _ (List.mem_append_left _ (List.mem_of_getElem? (i := 0) rfl)))) dX12_cable_44 ?_
          refine go_ldiv hC dX12_cable_47 (by decide) ?_
          refine go_l2i hC dX12_cable_48 ?_
          refine go_goto hC dX12_cable_49 (tgt := 74) (by decide) ?_
          obtain rfl := so_1 hf
          exact hret _ _ rfl dX12_cable_74
      · replace hf := if_f c_7 hf
        refine go_bipush hC dX12_cable_35 k8_m3 ?_
        obtain rfl := so_1 hf
        exact hret _ _ rfl dX12_cable_37
    · replace hf := if_t c_8 hf
      refine go_bipush hC dX12_cable_20 k8_m2 ?_
      obtain rfl := so_1 hf
      exact hret _ _ rfl dX12_cable_22
  · replace hf := if_f c_9 hf
    refine go_iconst hC dX12_cable_8 k1_m1 ?_
    obtain rfl := so_1 hf
    exact hret _ _ rfl dX12_cable_9
def lb_X12_layCarries_12 (x1 : Int32) (x2 : Int32) (h : PH) (x3 : Int64) (x5 : Int32) : Option ((Int64 × Int32) ⊕ (Int64 × Int32)) :=
  if x2 ≤ x5 then (
  some (.inr (x3, x5)))
  else (
  ga_i ((6 * x1) + x5) 36 (
  ga_i (h.1 61 ((6 * x1) + x5).toNatClampNeg) 8 (
  lt_b (x3 + ((h.1 55 (h.1 61 ((6 * x1) + x5).toNatClampNeg).toNatClampNeg).toInt64)) fun x3_10 =>
  lt_b (x5 + 1) fun x5_11 =>
  some (.inl (x3_10, x5_11)))))
def lb_X12_layCarries_166 (x1 : Int32) (x7 : Int32) (h : PH) : Option ((Int32 × PH) ⊕ (Int32 × PH)) :=
  bd_1 (f_X12_manyPieces x1 h) fun r_28 =>
  if r_28 ≤ x7 then (
  some (.inr (x7, h)))
  else (
  ga_i (x7 - 1) 7 (
  ga_i (((6 * x1) + x7) - 1) 36 (
  ga_i (h.1 61 (((6 * x1) + x7) - 1).toNatClampNeg) 8 (
  ga_i x7 7 (
  lt_b (ph_l h 62 x7.toNatClampNeg ((h.2.1 62 (x7 - 1).toNatClampNeg) - (((h.1 55 (h.1 61 (((6 * x1) + x7) - 1).toNatClampNeg).toNatClampNeg).toInt64) * (h.2.1 43 29)))) fun h_33 =>
  lt_b (x7 + 1) fun x7_34 =>
  some (.inl (x7_34, h_33)))))))
def lb_X12_layCarries_104 (x1 : Int32) (x2 : Int32) (x7 : Int64) (x9 : Int32) (h : PH) : Option ((Int64 × Int32 × PH) ⊕ (Int64 × Int32 × PH)) :=
  if x2 ≤ x9 then (
  some (.inr (x7, x9, h)))
  else (
  bd_1 (f_X12_pieceFar x1 x9 h) fun r_50 =>
  lt_b (x7 - ((r_50 / 1000).toInt64)) fun x7_51 =>
  ga_i 0 7 (
  ga_i ((6 * x1) + x9) 36 (
  ga_i (h.1 61 ((6 * x1) + x9).toNatClampNeg) 8 (
  ga_i 0 7 (
  lt_b (ph_l h 62 (0 : Int32).toNatClampNeg ((h.2.1 62 (0 : Int32).toNatClampNeg) + (((h.1 55 (h.1 61 ((6 * x1) + x9).toNatClampNeg).toNatClampNeg).toInt64) * x7_51))) fun h_56 =>
  lt_b (x9 + 1) fun x9_57 =>
  some (.inl (x7_51, x9_57, h_56)))))))
def f_X12_layCarries (x1 : Int32) (h : PH) : Option (Unit × PH) :=
  ga_i x1 6 (
  lt_b (h.1 60 x1.toNatClampNeg) fun x2_2 =>
  bd_1 (lp_f (fun s => lb_X12_layCarries_12 x1 x2_2 h s.1 s.2) fu_l (0, 0)) fun s_13 =>
  lt_b (ph_l h 43 29 1) fun h_14 =>
  ga_i 0 7 (
  lt_b (ph_l h_14 62 (0 : Int32).toNatClampNeg s_13.1) fun h_16 =>
  bd_1 (f_X12_cableOf x1 h_16) fun r_17 =>
  lt_b (r_17 - r_17 / 1000000 * 1000000) fun x5_18 =>
  ga_i x1 6 (
  if (h_16.1 58 x1.toNatClampNeg) ≤ 0 then (
  bd_1 (lp_f (fun s => lb_X12_layCarries_166 x1 s.1 s.2) fu_l (1, h_16)) fun s_36 =>
  some ((), s_36.2))
  else (
  if (lg_cmp x5_18 0) ≤ 0 then (
  bd_1 (lp_f (fun s => lb_X12_layCarries_166 x1 s.1 s.2) fu_l (1, h_16)) fun s_37 =>
  some ((), s_37.2))
  else (
  lt_b (ph_l h_16 43 29 x5_18) fun h_38 =>
  ga_i 0 7 (
  lt_b (ph_l h_38 62 (0 : Int32).toNatClampNeg 0) fun h_40 =>
  bd_1 (lp_f (fun s => lb_X12_layCarries_104 x1 x2_2 s.1 s.2.1 s.2.2) fu_l (x5_18, 0, h_40)) fun s_59 =>
  bd_1 (lp_f (fun s => lb_X12_layCarries_166 x1 s.1 s.2) fu_l (1, s_59.2.2)) fun s_60 =>
  some ((), s_60.2)))))))
set_option maxRecDepth 100000 in
set_option maxHeartbeats 4000000 in
theorem lw_X12_layCarries_12 {C : GC} (hC : Cx C cX12_layCarries 10 wsX12_layCarries RX12 none (rm_d 3)) (x1 : Int32) (x2 : Int32) (h : PH) : ∀ (n9 : Nat) (x3 : Int64) (x5 : Int32) (y : Int64 × Int32), lp_f (fun s => lb_X12_layCarries_12 x1 x2 h s.1 s.2) n9 (x3, x5) = some y → ∀ (hk : Go l0_B C 0 0 45 [(0, .ref 43), (1, .int x1), (2, .int x2), (3, .long y.1)] [] h), Go l0_B C 0 0 12 [(0, .ref 43), (1, .int x1), (2, .int x2), (3, .long x3), (5, .int x5)] [] h := by
  have hn12 : ∀ w ∈ wsX120, w ∈ wsX12_layCarries := (fun _ hw => (List.mem_cons_of_mem _ (List.mem_append_right _ hw)))
  intro n9
  induction n9 with
  | zero =>
    intro x3 x5 y hlp
    cases hlp
  | succ n9 ih =>
    intro x3 x5 y hlp hk
    obtain ⟨k9, z, hk9, hf, hy⟩ := lp_e hlp
    cases hk9
    replace hf : lb_X12_layCarries_12 x1 x2 h x3 x5 = some z := hf
    unfold lb_X12_layCarries_12 at hf
    refine go_iload hC dX12_layCarries_12 4 rfl ?_
    refine go_iload_n hC dX12_layCarries_14 rfl 2 rfl ?_
    refine go_icmp_ge hC dX12_layCarries_15 (tgt := 45) (by decide) (fun c_12 => ?_) (fun c_12 => ?_)
    · replace hf := if_t c_12 hf
      obtain rfl := so_1 hf
      obtain rfl := lp_x hy
      refine go_sub [0, 1, 2, 3] rfl ?_
      exact hk
    · replace hf := if_f c_12 hf
      refine go_lload_n hC dX12_layCarries_18 rfl 3 rfl ?_
      refine go_aload_n hC dX12_layCarries_19 rfl 0 rfl ?_
      refine go_getr hC (j := 21) (idx := 44) (nm := "loadOf") (ds := "[I") (b_43 _) rfl rfl hn12 (Nat.le_of_ble_eq_true rfl) rfl rfl (List.mem_cons_of_mem _ (List.mem_append_left _ (List.mem_append_left _ (List.mem_of_getElem? (i := 1) rfl)))) (Or.inl rfl) dX12_layCarries_20 ?_
      refine go_aload_n hC dX12_layCarries_23 rfl 0 rfl ?_
      refine go_getr hC (j := 28) (idx := 62) (nm := "wayPoint") (ds := "[I") (b_43 _) rfl rfl hn12 (Nat.le_of_ble_eq_true rfl) rfl rfl (List.mem_cons_of_mem _ (List.mem_append_left _ (List.mem_append_left _ (List.mem_of_getElem? (i := 2) rfl)))) (Or.inl rfl) dX12_layCarries_24 ?_
      refine go_bipush hC dX12_layCarries_27 k8_6 ?_
      refine go_iload_n hC dX12_layCarries_29 rfl 1 rfl ?_
      refine go_imul hC dX12_layCarries_30 ?_
      refine go_iload hC dX12_layCarries_31 4 rfl ?_
      refine go_iadd hC dX12_layCarries_33 ?_
      obtain ⟨g_8, hf⟩ := ga_e hf
      refine go_iald hC (b_61 _) g_8 dX12_layCarries_34 ?_
      obtain ⟨g_9, hf⟩ := ga_e hf
      refine go_iald hC (b_55 _) g_9 dX12_layCarries_35 ?_
      refine go_i2l hC dX12_layCarries_36 ?_
      refine go_ladd hC dX12_layCarries_37 ?_
      obtain ⟨x3_10, ex3_10, hf⟩ := lt_e hf
      refine go_topl ex3_10 ?_
      refine go_lstore_n hC dX12_layCarries_38 rfl (Nat.le_of_ble_eq_true rfl) rfl ?_
      obtain ⟨x5_11, ex5_11, hf⟩ := lt_e hf
      refine go_iinc hC dX12_layCarries_39 4 rfl k1_1 ex5_11 (Nat.le_of_ble_eq_true rfl) rfl ?_
      refine go_goto hC dX12_layCarries_42 (tgt := 12) (by decide) ?_
      obtain rfl := so_1 hf
      refine go_sub [2, 3, 4, 1, 0] rfl ?_
      exact ih x3_10 x5_11 _ (lp_c hy) hk
set_option maxRecDepth 100000 in
set_option maxHeartbeats 4000000 in
theorem lw_X12_layCarries_166 {C : GC} (hC : Cx C cX12_layCarries 10 wsX12_layCarries RX12 none (rm_d 3)) (x1 : Int32) : ∀ (n9 : Nat) (x7 : Int32) (h : PH) (y : Int32 × PH), lp_f (fun s => lb_X12_layCarries_166 x1 s.1 s.2) n9 (x7, h) = some y → ∀ (hk : Go l0_B C 0 0 224 [] [] y.2), Go l0_B C 0 0 166 [(0, .ref 43), (1, .int x1), (7, .int x7)] [] h := by
  have hn12 : ∀ w ∈ wsX120, w ∈ wsX12_layCarries := (fun _ hw => (List.mem_cons_of_mem _ (List.mem_append_right _ hw)))
  intro n9
  induction n9 with
  | zero =>
    intro x7 h y hlp
    cases hlp
  | succ n9 ih =>
    intro x7 h y hlp hk
    obtain ⟨k9, z, hk9, hf, hy⟩ := lp_e hlp
    cases hk9
    replace hf : lb_X12_layCarries_166 x1 x7 h = some z := hf
    unfold lb_X12_layCarries_166 at hf
    refine go_iload hC dX12_layCarries_166 2 rfl ?_
    refine go_aload_n hC dX12_layCarries_168 rfl 0 rfl ?_
    refine go_iload_n hC dX12_layCarries_169 rfl 1 rfl ?_
    obtain ⟨r_28, hc, hf⟩ := bd_e1 hf
    refine go_callV hC (c_X12_manyPieces x1 h r_28 hc) gX12_layCarries_X12_manyPieces rfl ⟨rfl, rfl⟩ 1 e_X12_manyPieces ⟨Nat.le_of_ble_eq_true rfl, Nat.le_of_ble_eq_true rfl⟩ (b_43 _) rfl rfl (st := [.int x7]) (st1 := [.int r_28, .int x7]) rfl rfl (Nat.le_of_ble_eq_true rfl) ⟨Nat.zero_le _, Nat.zero_le _⟩ dX12_layCarries_170 ?_
    refine go_icmp_ge hC dX12_layCarries_173 (tgt := 224) (by decide) (fun c_35 => ?_) (fun c_35 => ?_)
    · replace hf := if_t c_35 hf
      obtain rfl := so_1 hf
      obtain rfl := lp_x hy
      refine go_sub [] rfl ?_
      exact hk
    · replace hf := if_f c_35 hf
      refine go_aload_n hC dX12_layCarries_176 rfl 0 rfl ?_
      refine go_getr hC (j := 30) (idx := 65) (nm := "carry") (ds := "[J") (b_43 _) rfl rfl hn12 (Nat.le_of_ble_eq_true rfl) rfl rfl (List.mem_cons_of_mem _ (List.mem_append_left _ (List.mem_append_left _ (List.mem_of_getElem? (i := 4) rfl)))) (Or.inl rfl) dX12_layCarries_177 ?_
      refine go_iload hC dX12_layCarries_180 2 rfl ?_
      refine go_aload_n hC dX12_layCarries_182 rfl 0 rfl ?_
      refine go_getr hC (j := 30) (idx := 65) (nm := "carry") (ds := "[J") (b_43 _) rfl rfl hn12 (Nat.le_of_ble_eq_true rfl) rfl rfl (List.mem_cons_of_mem _ (List.mem_append_left _ (List.mem_append_left _ (List.mem_of_getElem? (i := 4) rfl)))) (Or.inl rfl) dX12_layCarries_183 ?_
      refine go_iload hC dX12_layCarries_186 2 rfl ?_
      refine go_iconst hC dX12_layCarries_188 k1_1 ?_
      refine go_isub hC dX12_layCarries_189 ?_
      obtain ⟨g_29, hf⟩ := ga_e hf
      refine go_lald hC (b_62 _) g_29 dX12_layCarries_190 ?_
      refine go_aload_n hC dX12_layCarries_191 rfl 0 rfl ?_
      refine go_getr hC (j := 21) (idx := 44) (nm := "loadOf") (ds := "[I") (b_43 _) rfl rfl hn12 (Nat.le_of_ble_eq_true rfl) rfl rfl (List.mem_cons_of_mem _ (List.mem_append_left _ (List.mem_append_left _ (List.mem_of_getElem? (i := 1) rfl)))) (Or.inl rfl) dX12_layCarries_192 ?_
      refine go_aload_n hC dX12_layCarries_195 rfl 0 rfl ?_
      refine go_getr hC (j := 28) (idx := 62) (nm := "wayPoint") (ds := "[I") (b_43 _) rfl rfl hn12 (Nat.le_of_ble_eq_true rfl) rfl rfl (List.mem_cons_of_mem _ (List.mem_append_left _ (List.mem_append_left _ (List.mem_of_getElem? (i := 2) rfl)))) (Or.inl rfl) dX12_layCarries_196 ?_
      refine go_bipush hC dX12_layCarries_199 k8_6 ?_
      refine go_iload_n hC dX12_layCarries_201 rfl 1 rfl ?_
      refine go_imul hC dX12_layCarries_202 ?_
      refine go_iload hC dX12_layCarries_203 2 rfl ?_
      refine go_iadd hC dX12_layCarries_205 ?_
      refine go_iconst hC dX12_layCarries_206 k1_1 ?_
      refine go_isub hC dX12_layCarries_207 ?_
      obtain ⟨g_30, hf⟩ := ga_e hf
      refine go_iald hC (b_61 _) g_30 dX12_layCarries_208 ?_
      obtain ⟨g_31, hf⟩ := ga_e hf
      refine go_iald hC (b_55 _) g_31 dX12_layCarries_209 ?_
      refine go_i2l hC dX12_layCarries_210 ?_
      refine go_aload_n hC dX12_layCarries_211 rfl 0 rfl ?_
      refine go_getl hC (j := 29) (idx := 253) (nm := "carryUnder") (ds := "J") (b_43 _) rfl rfl hn12 (Nat.le_of_ble_eq_true rfl) rfl rfl (List.mem_cons_of_mem _ (List.mem_append_left _ (List.mem_append_left _ (List.mem_of_getElem? (i := 3) rfl)))) (Or.inl rfl) dX12_layCarries_212 ?_
      refine go_lmul hC dX12_layCarries_215 ?_
      refine go_lsub hC dX12_layCarries_216 ?_
      obtain ⟨g_32, hf⟩ := ga_e hf
      obtain ⟨h_33, eh_33, hf⟩ := lt_e hf
      refine go_last hC (b_62 _) g_32 dX12_layCarries_217 ?_
      refine go_toph eh_33 ?_
      obtain ⟨x7_34, ex7_34, hf⟩ := lt_e hf
      refine go_iinc hC dX12_layCarries_218 2 rfl k1_1 ex7_34 (Nat.le_of_ble_eq_true rfl) rfl ?_
      refine go_goto hC dX12_layCarries_221 (tgt := 166) (by decide) ?_
      obtain rfl := so_1 hf
      refine go_sub [1, 2, 0] rfl ?_
      exact ih x7_34 h_33 _ (lp_c hy) hk
set_option maxRecDepth 100000 in
set_option maxHeartbeats 4000000 in
theorem lw_X12_layCarries_104 {C : GC} (hC : Cx C cX12_layCarries 10 wsX12_layCarries RX12 none (rm_d 3)) (x1 : Int32) (x2 : Int32) : ∀ (n9 : Nat) (x7 : Int64) (x9 : Int32) (h : PH) (y : Int64 × Int32 × PH), lp_f (fun s => lb_X12_layCarries_104 x1 x2 s.1 s.2.1 s.2.2) n9 (x7, x9, h) = some y → ∀ (hk : Go l0_B C 0 0 163 [(0, .ref 43), (1, .int x1)] [] y.2.2), Go l0_B C 0 0 104 [(0, .ref 43), (1, .int x1), (2, .int x2), (7, .long x7), (9, .int x9)] [] h := by
  have hn12 : ∀ w ∈ wsX120, w ∈ wsX12_layCarries := (fun _ hw => (List.mem_cons_of_mem _ (List.mem_append_right _ hw)))
  intro n9
  induction n9 with
  | zero =>
    intro x7 x9 h y hlp
    cases hlp
  | succ n9 ih =>
    intro x7 x9 h y hlp hk
    obtain ⟨k9, z, hk9, hf, hy⟩ := lp_e hlp
    cases hk9
    replace hf : lb_X12_layCarries_104 x1 x2 x7 x9 h = some z := hf
    unfold lb_X12_layCarries_104 at hf
    refine go_iload hC dX12_layCarries_104 4 rfl ?_
    refine go_iload_n hC dX12_layCarries_106 rfl 2 rfl ?_
    refine go_icmp_ge hC dX12_layCarries_107 (tgt := 163) (by decide) (fun c_58 => ?_) (fun c_58 => ?_)
    · replace hf := if_t c_58 hf
      obtain rfl := so_1 hf
      obtain rfl := lp_x hy
      refine go_sub [0, 1] rfl ?_
      exact hk
    · replace hf := if_f c_58 hf
      refine go_lload hC dX12_layCarries_110 3 rfl ?_
      refine go_aload_n hC dX12_layCarries_112 rfl 0 rfl ?_
      refine go_iload_n hC dX12_layCarries_113 rfl 1 rfl ?_
      refine go_iload hC dX12_layCarries_114 4 rfl ?_
      obtain ⟨r_50, hc, hf⟩ := bd_e1 hf
      refine go_callV hC (c_X12_pieceFar x1 x9 h r_50 hc) gX12_layCarries_X12_pieceFar rfl ⟨rfl, rfl⟩ 2 e_X12_pieceFar ⟨Nat.le_of_ble_eq_true rfl, Nat.le_of_ble_eq_true rfl⟩ (b_43 _) rfl rfl (st := [.long x7]) (st1 := [.int r_50, .long x7]) rfl rfl (Nat.le_of_ble_eq_true rfl) ⟨Nat.zero_le _, Nat.zero_le _⟩ dX12_layCarries_116 ?_
      refine go_sipush hC dX12_layCarries_119 k16_1000 ?_
      refine go_idiv hC dX12_layCarries_122 (by decide) ?_
      refine go_i2l hC dX12_layCarries_123 ?_
      refine go_lsub hC dX12_layCarries_124 ?_
      obtain ⟨x7_51, ex7_51, hf⟩ := lt_e hf
      refine go_topl ex7_51 ?_
      refine go_lstore hC dX12_layCarries_125 (Nat.le_of_ble_eq_true rfl) rfl ?_
      refine go_aload_n hC dX12_layCarries_127 rfl 1 rfl ?_
      refine go_getr hC (j := 30) (idx := 65) (nm := "carry") (ds := "[J") (b_43 _) rfl rfl hn12 (Nat.le_of_ble_eq_true rfl) rfl rfl (List.mem_cons_of_mem _ (List.mem_append_left _ (List.mem_append_left _ (List.mem_of_getElem? (i := 4) rfl)))) (Or.inl rfl) dX12_layCarries_128 ?_
      refine go_iconst hC dX12_layCarries_131 k1_0 ?_
      refine go_dup2 hC dX12_layCarries_132 rfl rfl ?_
      obtain ⟨g_52, hf⟩ := ga_e hf
      refine go_lald hC (b_62 _) g_52 dX12_layCarries_133 ?_
      refine go_aload_n hC dX12_layCarries_134 rfl 1 rfl ?_
      refine go_getr hC (j := 21) (idx := 44) (nm := "loadOf") (ds := "[I") (b_43 _) rfl rfl hn12 (Nat.le_of_ble_eq_true rfl) rfl rfl (List.mem_cons_of_mem _ (List.mem_append_left _ (List.mem_append_left _ (List.mem_of_getElem? (i := 1) rfl)))) (Or.inl rfl) dX12_layCarries_135 ?_
      refine go_aload_n hC dX12_layCarries_138 rfl 1 rfl ?_
      refine go_getr hC (j := 28) (idx := 62) (nm := "wayPoint") (ds := "[I") (b_43 _) rfl rfl hn12 (Nat.le_of_ble_eq_true rfl) rfl rfl (List.mem_cons_of_mem _ (List.mem_append_left _ (List.mem_append_left _ (List.mem_of_getElem? (i := 2) rfl)))) (Or.inl rfl) dX12_layCarries_139 ?_
      refine go_bipush hC dX12_layCarries_142 k8_6 ?_
      refine go_iload_n hC dX12_layCarries_144 rfl 2 rfl ?_
      refine go_imul hC dX12_layCarries_145 ?_
      refine go_iload hC dX12_layCarries_146 4 rfl ?_
      refine go_iadd hC dX12_layCarries_148 ?_
      obtain ⟨g_53, hf⟩ := ga_e hf
      refine go_iald hC (b_61 _) g_53 dX12_layCarries_149 ?_
      obtain ⟨g_54, hf⟩ := ga_e hf
      refine go_iald hC (b_55 _) g_54 dX12_layCarries_150 ?_
      refine go_i2l hC dX12_layCarries_151 ?_
      refine go_lload hC dX12_layCarries_152 0 rfl ?_
      refine go_lmul hC dX12_layCarries_154 ?_
      refine go_ladd hC dX12_layCarries_155 ?_
      obtain ⟨g_55, hf⟩ := ga_e hf
      obtain ⟨h_56, eh_56, hf⟩ := lt_e hf
      refine go_last hC (b_62 _) g_55 dX12_layCarries_156 ?_
      refine go_toph eh_56 ?_
      obtain ⟨x9_57, ex9_57, hf⟩ := lt_e hf
      refine go_iinc hC dX12_layCarries_157 4 rfl k1_1 ex9_57 (Nat.le_of_ble_eq_true rfl) rfl ?_
      refine go_goto hC dX12_layCarries_160 (tgt := 104) (by decide) ?_
      obtain rfl := so_1 hf
      refine go_sub [2, 3, 4, 1, 0] rfl ?_
      exact ih x7_51 x9_57 h_56 _ (lp_c hy) hk
theorem e_X12_layCarries : yX12_layCarries.cls = RX12 ∧ yX12_layCarries.cls ≠ "java/lang/invoke/MethodHandle" ∧ yX12_layCarries.cls ≠ "java/lang/invoke/VarHandle" ∧ (parseMethodDescriptor yX12_layCarries.desc).map (fun d => d.parameters.length) = some 1 := by decide +kernel
set_option maxRecDepth 100000 in
set_option maxHeartbeats 4000000 in
theorem c_X12_layCarries (x1 : Int32) (h : PH) (h2 : PH) (hf : f_X12_layCarries x1 h = some ((), h2)) : Con yX12_layCarries wsX12_layCarries (rm_d 3) l0_B [.ref 43, .int x1] h none h2 := by
  have hn12 : ∀ w ∈ wsX120, w ∈ wsX12_layCarries := (fun _ hw => (List.mem_cons_of_mem _ (List.mem_append_right _ hw)))
  refine con_v (cc := cX12_layCarries) (nL := 10) (by decide) rfl (Nat.le_of_ble_eq_true rfl) ?_
  intro C hC hret
  change Go l0_B C 0 0 0 [(0, .ref 43), (1, .int x1)] [] h
  unfold f_X12_layCarries at hf
  refine go_aload_n hC dX12_layCarries_0 rfl 0 rfl ?_
  refine go_getr hC (j := 27) (idx := 59) (nm := "wayMany") (ds := "[I") (b_43 _) rfl rfl hn12 (Nat.le_of_ble_eq_true rfl) rfl rfl (List.mem_cons_of_mem _ (List.mem_append_left _ (List.mem_append_left _ (List.mem_of_getElem? (i := 0) rfl)))) (Or.inl rfl) dX12_layCarries_1 ?_
  refine go_iload_n hC dX12_layCarries_4 rfl 1 rfl ?_
  obtain ⟨g_1, hf⟩ := ga_e hf
  refine go_iald hC (b_60 _) g_1 dX12_layCarries_5 ?_
  obtain ⟨x2_2, ex2_2, hf⟩ := lt_e hf
  refine go_topi ex2_2 ?_
  refine go_istore_n hC dX12_layCarries_6 rfl (Nat.le_of_ble_eq_true rfl) rfl ?_
  refine go_lconst hC dX12_layCarries_7 (v := 0) rfl ?_
  refine go_lstore_n hC dX12_layCarries_8 rfl (Nat.le_of_ble_eq_true rfl) rfl ?_
  refine go_iconst hC dX12_layCarries_9 k1_0 ?_
  refine go_istore hC dX12_layCarries_10 (Nat.le_of_ble_eq_true rfl) rfl ?_
  obtain ⟨s_13, hl, hf⟩ := bd_e1 hf
  refine go_sub [3, 4, 2, 1, 0] rfl ?_
  refine lw_X12_layCarries_12 hC x1 x2_2 h _ 0 0 s_13 hl ?_
  refine go_aload_n hC dX12_layCarries_45 rfl 0 rfl ?_
  refine go_lconst hC dX12_layCarries_46 (v := 1) rfl ?_
  obtain ⟨h_14, eh_14, hf⟩ := lt_e hf
  refine go_putl hC tyX12 (j := 29) (idx := 253) (nm := "carryUnder") (ds := "J") (b_43 _) rfl rfl hn12 tyX12_ok nmX12 (Nat.le_of_ble_eq_true rfl) rfl rfl (List.mem_cons_of_mem _ (List.mem_append_left _ (List.mem_append_left _ (List.mem_of_getElem? (i := 3) rfl)))) (Or.inl rfl) rfl (tyX12_ok _ (Nat.le_of_ble_eq_true rfl)) dX12_layCarries_47 ?_
  refine go_toph eh_14 ?_
  refine go_aload_n hC dX12_layCarries_50 rfl 0 rfl ?_
  refine go_getr hC (j := 30) (idx := 65) (nm := "carry") (ds := "[J") (b_43 _) rfl rfl hn12 (Nat.le_of_ble_eq_true rfl) rfl rfl (List.mem_cons_of_mem _ (List.mem_append_left _ (List.mem_append_left _ (List.mem_of_getElem? (i := 4) rfl)))) (Or.inl rfl) dX12_layCarries_51 ?_
  refine go_iconst hC dX12_layCarries_54 k1_0 ?_
  refine go_lload_n hC dX12_layCarries_55 rfl 3 rfl ?_
  obtain ⟨g_15, hf⟩ := ga_e hf
  obtain ⟨h_16, eh_16, hf⟩ := lt_e hf
  refine go_last hC (b_62 _) g_15 dX12_layCarries_56 ?_
  refine go_toph eh_16 ?_
  refine go_aload_n hC dX12_layCarries_57 rfl 0 rfl ?_
  refine go_iload_n hC dX12_layCarries_58 rfl 1 rfl ?_
  obtain ⟨r_17, hc, hf⟩ := bd_e1 hf
  refine go_callV hC (c_X12_cableOf x1 h_16 r_17 hc) gX12_layCarries_X12_cableOf rfl ⟨rfl, rfl⟩ 1 e_X12_cableOf ⟨Nat.le_of_ble_eq_true rfl, Nat.le_of_ble_eq_true rfl⟩ (b_43 _) rfl rfl (st := []) (st1 := [.long r_17]) rfl rfl (Nat.le_of_ble_eq_true rfl) ⟨Nat.zero_le _, Nat.zero_le _⟩ dX12_layCarries_59 ?_
  refine go_ldc2 hC (v := 1000000) (List.mem_cons_of_mem _ (List.mem_append_left _ (List.mem_append_left _ (List.mem_of_getElem? (i := 5) rfl)))) dX12_layCarries_62 ?_
  refine go_lrem hC dX12_layCarries_65 (by decide) ?_
  obtain ⟨x5_18, ex5_18, hf⟩ := lt_e hf
  refine go_topl ex5_18 ?_
  refine go_lstore hC dX12_layCarries_66 (Nat.le_of_ble_eq_true rfl) rfl ?_
  refine go_aload_n hC dX12_layCarries_68 rfl 1 rfl ?_
  refine go_getr hC (j := 25) (idx := 53) (nm := "wayKind") (ds := "[I") (b_43 _) rfl rfl hn12 (Nat.le_of_ble_eq_true rfl) rfl rfl (List.mem_cons_of_mem _ (List.mem_append_left _ (List.mem_append_left _ (List.mem_of_getElem? (i := 6) rfl)))) (Or.inl rfl) dX12_layCarries_69 ?_
  refine go_iload_n hC dX12_layCarries_72 rfl 2 rfl ?_
  obtain ⟨g_19, hf⟩ := ga_e hf
  refine go_iald hC (b_58 _) g_19 dX12_layCarries_73 ?_
  refine go_if_le hC dX12_layCarries_74 (tgt := 163) (by decide) (fun c_62 => ?_) (fun c_62 => ?_)
  · replace hf := if_t c_62 hf
    refine go_iconst hC dX12_layCarries_163 k1_1 ?_
    refine go_istore hC dX12_layCarries_164 (Nat.le_of_ble_eq_true rfl) rfl ?_
    obtain ⟨s_36, hl, hf⟩ := bd_e1 hf
    refine go_sub [2, 3, 0] rfl ?_
    refine lw_X12_layCarries_166 hC x1 _ 1 h_16 s_36 hl ?_
    obtain ⟨-, rfl⟩ := so_2 hf
    exact hret _ _ dX12_layCarries_224
  · replace hf := if_f c_62 hf
    refine go_lload hC dX12_layCarries_77 0 rfl ?_
    refine go_lconst hC dX12_layCarries_79 (v := 0) rfl ?_
    refine go_lcmp hC dX12_layCarries_80 ?_
    refine go_if_le hC dX12_layCarries_81 (tgt := 163) (by decide) (fun c_61 => ?_) (fun c_61 => ?_)
    · replace hf := if_t c_61 hf
      refine go_iconst hC dX12_layCarries_163 k1_1 ?_
      refine go_istore hC dX12_layCarries_164 (Nat.le_of_ble_eq_true rfl) rfl ?_
      obtain ⟨s_37, hl, hf⟩ := bd_e1 hf
      refine go_sub [2, 3, 0] rfl ?_
      refine lw_X12_layCarries_166 hC x1 _ 1 h_16 s_37 hl ?_
      obtain ⟨-, rfl⟩ := so_2 hf
      exact hret _ _ dX12_layCarries_224
    · replace hf := if_f c_61 hf
      refine go_aload_n hC dX12_layCarries_84 rfl 1 rfl ?_
      refine go_lload hC dX12_layCarries_85 0 rfl ?_
      obtain ⟨h_38, eh_38, hf⟩ := lt_e hf
      refine go_putl hC tyX12 (j := 29) (idx := 253) (nm := "carryUnder") (ds := "J") (b_43 _) rfl rfl hn12 tyX12_ok nmX12 (Nat.le_of_ble_eq_true rfl) rfl rfl (List.mem_cons_of_mem _ (List.mem_append_left _ (List.mem_append_left _ (List.mem_of_getElem? (i := 3) rfl)))) (Or.inl rfl) rfl (tyX12_ok _ (Nat.le_of_ble_eq_true rfl)) dX12_layCarries_87 ?_
      refine go_toph eh_38 ?_
      refine go_aload_n hC dX12_layCarries_90 rfl 1 rfl ?_
      refine go_getr hC (j := 30) (idx := 65) (nm := "carry") (ds := "[J") (b_43 _) rfl rfl hn12 (Nat.le_of_ble_eq_true rfl) rfl rfl (List.mem_cons_of_mem _ (List.mem_append_left _ (List.mem_append_left _ (List.mem_of_getElem? (i := 4) rfl)))) (Or.inl rfl) dX12_layCarries_91 ?_
      refine go_iconst hC dX12_layCarries_94 k1_0 ?_
      refine go_lconst hC dX12_layCarries_95 (v := 0) rfl ?_
      obtain ⟨g_39, hf⟩ := ga_e hf
      obtain ⟨h_40, eh_40, hf⟩ := lt_e hf
      refine go_last hC (b_62 _) g_39 dX12_layCarries_96 ?_
      refine go_toph eh_40 ?_
      refine go_lload hC dX12_layCarries_97 0 rfl ?_
      refine go_lstore hC dX12_layCarries_99 (Nat.le_of_ble_eq_true rfl) rfl ?_
      refine go_iconst hC dX12_layCarries_101 k1_0 ?_
      refine go_istore hC dX12_layCarries_102 (Nat.le_of_ble_eq_true rfl) rfl ?_
      obtain ⟨s_59, hl, hf⟩ := bd_e1 hf
      refine go_sub [3, 4, 5, 1, 0] rfl ?_
      refine lw_X12_layCarries_104 hC x1 x2_2 _ x5_18 0 h_40 s_59 hl ?_
      refine go_iconst hC dX12_layCarries_163 k1_1 ?_
      refine go_istore hC dX12_layCarries_164 (Nat.le_of_ble_eq_true rfl) rfl ?_
      obtain ⟨s_60, hl, hf⟩ := bd_e1 hf
      refine go_sub [1, 2, 0] rfl ?_
      refine lw_X12_layCarries_166 hC x1 _ 1 s_59.2.2 s_60 hl ?_
      obtain ⟨-, rfl⟩ := so_2 hf
      exact hret _ _ dX12_layCarries_224
def f_X12_carries (x1 : Int32) (x2 : Int32) (x3 : Int32) (h : PH) : Option (Int64 × PH) :=
  bd_1 (f_X12_noWay x1 h) fun r_1 =>
  if r_1 = 0 then (
  bd_1 (f_X12_manyPieces x1 h) fun r_3 =>
  bd_1 (f_X12_in x2.toInt64 0 (r_3.toInt64 - 1) h) fun r_4 =>
  if r_4 = 0 then (
  bd_1 (f_X12_lost h) fun r_5 =>
  some (r_5, h))
  else (
  bd_1 (f_X12_in x3.toInt64 0 1 h) fun r_6 =>
  if r_6 = 0 then (
  bd_1 (f_X12_lost h) fun r_7 =>
  some (r_7, h))
  else (
  bd_1 (f_X12_cableOf x1 h) fun r_8 =>
  if 0 ≤ (lg_cmp r_8 0) then (
  bd_2 (f_X12_layCarries x1 h) fun r_9 h_10 =>
  ga_i x2 7 (
  bd_1 (f_X12_told (h_10.2.1 62 x2.toNatClampNeg) (h_10.2.1 43 29) x3 h_10) fun r_12 =>
  some (r_12, h_10)))
  else (
  bd_1 (f_X12_lost h) fun r_13 =>
  some (r_13, h)))))
  else (
  bd_1 (f_X12_lost h) fun r_2 =>
  some (r_2, h))
theorem e_X12_carries : yX12_carries.cls = RX12 ∧ yX12_carries.cls ≠ "java/lang/invoke/MethodHandle" ∧ yX12_carries.cls ≠ "java/lang/invoke/VarHandle" ∧ (parseMethodDescriptor yX12_carries.desc).map (fun d => d.parameters.length) = some 3 := by decide +kernel
set_option maxRecDepth 100000 in
set_option maxHeartbeats 4000000 in
theorem c_X12_carries (x1 : Int32) (x2 : Int32) (x3 : Int32) (h : PH) (h2 : PH) (r : Int64) (hf : f_X12_carries x1 x2 x3 h = some (r, h2)) : Con yX12_carries wsX12_carries (rm_d 4) l0_B [.ref 43, .int x1, .int x2, .int x3] h (some (.long r)) h2 := by
  have hn12 : ∀ w ∈ wsX120, w ∈ wsX12_carries := (fun _ hw => (List.mem_cons_of_mem _ (List.mem_append_right _ hw)))
  refine con_l (cc := cX12_carries) (nL := 4) (by decide) rfl (Nat.le_of_ble_eq_true rfl) ?_
  intro C hC hret
  change Go l0_B C 0 0 0 [(0, .ref 43), (1, .int x1), (2, .int x2), (3, .int x3)] [] h
  unfold f_X12_carries at hf
  refine go_aload_n hC dX12_carries_0 rfl 0 rfl ?_
  refine go_iload_n hC dX12_carries_1 rfl 1 rfl ?_
  obtain ⟨r_1, hc, hf⟩ := bd_e1 hf
  refine go_callV hC (c_X12_noWay x1 h r_1 hc) gX12_carries_X12_noWay rfl ⟨rfl, rfl⟩ 1 e_X12_noWay ⟨Nat.le_of_ble_eq_true rfl, Nat.le_of_ble_eq_true rfl⟩ (b_43 _) rfl rfl (st := []) (st1 := [.int r_1]) rfl rfl (Nat.le_of_ble_eq_true rfl) ⟨Nat.zero_le _, Nat.zero_le _⟩ dX12_carries_2 ?_
  refine go_if_ne hC dX12_carries_5 (tgt := 45) (by decide) (fun c_17 => ?_) (fun c_17 => ?_)
  · replace hf := if_f c_17 hf
    obtain ⟨r_2, hc, hf⟩ := bd_e1 hf
    refine go_callS hC (c_X12_lost h r_2 hc) gX12_carries_X12_lost rfl ⟨rfl, rfl⟩ 0 e_X12_lost ⟨Nat.le_of_ble_eq_true rfl, Nat.le_of_ble_eq_true rfl⟩ rfl (st := []) (st1 := [.long r_2]) rfl rfl (Nat.le_of_ble_eq_true rfl) ⟨Nat.zero_le _, Nat.zero_le _⟩ dX12_carries_45 ?_
    obtain ⟨rfl, rfl⟩ := so_2 hf
    exact hret _ _ dX12_carries_48
  · replace hf := if_t c_17 hf
    refine go_iload_n hC dX12_carries_8 rfl 2 rfl ?_
    refine go_i2l hC dX12_carries_9 ?_
    refine go_lconst hC dX12_carries_10 (v := 0) rfl ?_
    refine go_aload_n hC dX12_carries_11 rfl 0 rfl ?_
    refine go_iload_n hC dX12_carries_12 rfl 1 rfl ?_
    obtain ⟨r_3, hc, hf⟩ := bd_e1 hf
    refine go_callV hC (c_X12_manyPieces x1 h r_3 hc) gX12_carries_X12_manyPieces rfl ⟨rfl, rfl⟩ 1 e_X12_manyPieces ⟨Nat.le_of_ble_eq_true rfl, Nat.le_of_ble_eq_true rfl⟩ (b_43 _) rfl rfl (st := [.long 0, .long x2.toInt64]) (st1 := [.int r_3, .long 0, .long x2.toInt64]) rfl rfl (Nat.le_of_ble_eq_true rfl) ⟨Nat.zero_le _, Nat.zero_le _⟩ dX12_carries_13 ?_
    refine go_i2l hC dX12_carries_16 ?_
    refine go_lconst hC dX12_carries_17 (v := 1) rfl ?_
    refine go_lsub hC dX12_carries_18 ?_
    obtain ⟨r_4, hc, hf⟩ := bd_e1 hf
    refine go_callS hC (c_X12_in x2.toInt64 0 (r_3.toInt64 - 1) h r_4 hc) gX12_carries_X12_in rfl ⟨rfl, rfl⟩ 3 e_X12_in ⟨Nat.le_of_ble_eq_true rfl, Nat.le_of_ble_eq_true rfl⟩ rfl (st := []) (st1 := [.int r_4]) rfl rfl (Nat.le_of_ble_eq_true rfl) ⟨Nat.zero_le _, Nat.zero_le _⟩ dX12_carries_19 ?_
    refine go_if_eq hC dX12_carries_22 (tgt := 45) (by decide) (fun c_16 => ?_) (fun c_16 => ?_)
    · replace hf := if_t c_16 hf
      obtain ⟨r_5, hc, hf⟩ := bd_e1 hf
      refine go_callS hC (c_X12_lost h r_5 hc) gX12_carries_X12_lost rfl ⟨rfl, rfl⟩ 0 e_X12_lost ⟨Nat.le_of_ble_eq_true rfl, Nat.le_of_ble_eq_true rfl⟩ rfl (st := []) (st1 := [.long r_5]) rfl rfl (Nat.le_of_ble_eq_true rfl) ⟨Nat.zero_le _, Nat.zero_le _⟩ dX12_carries_45 ?_
      obtain ⟨rfl, rfl⟩ := so_2 hf
      exact hret _ _ dX12_carries_48
    · replace hf := if_f c_16 hf
      refine go_iload_n hC dX12_carries_25 rfl 3 rfl ?_
      refine go_i2l hC dX12_carries_26 ?_
      refine go_lconst hC dX12_carries_27 (v := 0) rfl ?_
      refine go_lconst hC dX12_carries_28 (v := 1) rfl ?_
      obtain ⟨r_6, hc, hf⟩ := bd_e1 hf
      refine go_callS hC (c_X12_in x3.toInt64 0 1 h r_6 hc) gX12_carries_X12_in rfl ⟨rfl, rfl⟩ 3 e_X12_in ⟨Nat.le_of_ble_eq_true rfl, Nat.le_of_ble_eq_true rfl⟩ rfl (st := []) (st1 := [.int r_6]) rfl rfl (Nat.le_of_ble_eq_true rfl) ⟨Nat.zero_le _, Nat.zero_le _⟩ dX12_carries_29 ?_
      refine go_if_eq hC dX12_carries_32 (tgt := 45) (by decide) (fun c_15 => ?_) (fun c_15 => ?_)
      · replace hf := if_t c_15 hf
        obtain ⟨r_7, hc, hf⟩ := bd_e1 hf
        refine go_callS hC (c_X12_lost h r_7 hc) gX12_carries_X12_lost rfl ⟨rfl, rfl⟩ 0 e_X12_lost ⟨Nat.le_of_ble_eq_true rfl, Nat.le_of_ble_eq_true rfl⟩ rfl (st := []) (st1 := [.long r_7]) rfl rfl (Nat.le_of_ble_eq_true rfl) ⟨Nat.zero_le _, Nat.zero_le _⟩ dX12_carries_45 ?_
        obtain ⟨rfl, rfl⟩ := so_2 hf
        exact hret _ _ dX12_carries_48
      · replace hf := if_f c_15 hf
        refine go_aload_n hC dX12_carries_35 rfl 0 rfl ?_
        refine go_iload_n hC dX12_carries_36 rfl 1 rfl ?_
        obtain ⟨r_8, hc, hf⟩ := bd_e1 hf
        refine go_callV hC (c_X12_cableOf x1 h r_8 hc) gX12_carries_X12_cableOf rfl ⟨rfl, rfl⟩ 1 e_X12_cableOf ⟨Nat.le_of_ble_eq_true rfl, Nat.le_of_ble_eq_true rfl⟩ (b_43 _) rfl rfl (st := []) (st1 := [.long r_8]) rfl rfl (Nat.le_of_ble_eq_true rfl) ⟨Nat.zero_le _, Nat.zero_le _⟩ dX12_carries_37 ?_
        refine go_lconst hC dX12_carries_40 (v := 0) rfl ?_
        refine go_lcmp hC dX12_carries_41 ?_
        refine go_if_ge hC dX12_carries_42 (tgt := 49) (by decide) (fun c_14 => ?_) (fun c_14 => ?_)
        · replace hf := if_t c_14 hf
          refine go_aload_n hC dX12_carries_49 rfl 0 rfl ?_
          refine go_iload_n hC dX12_carries_50 rfl 1 rfl ?_
          obtain ⟨r_9, h_10, hc, hf⟩ := bd_e2 hf
          refine go_callV hC (c_X12_layCarries x1 h h_10 hc) gX12_carries_X12_layCarries rfl ⟨rfl, rfl⟩ 1 e_X12_layCarries ⟨Nat.le_of_ble_eq_true rfl, Nat.le_of_ble_eq_true rfl⟩ (b_43 _) rfl rfl (st := []) (st1 := []) rfl rfl (Nat.le_of_ble_eq_true rfl) ⟨Nat.zero_le _, Nat.zero_le _⟩ dX12_carries_51 ?_
          refine go_aload_n hC dX12_carries_54 rfl 0 rfl ?_
          refine go_getr hC (j := 30) (idx := 65) (nm := "carry") (ds := "[J") (b_43 _) rfl rfl hn12 (Nat.le_of_ble_eq_true rfl) rfl rfl (List.mem_cons_of_mem _ (List.mem_append_left _ (List.mem_append_left _ (List.mem_of_getElem? (i := 0) rfl)))) (Or.inl rfl) dX12_carries_55 ?_
          refine go_iload_n hC dX12_carries_58 rfl 2 rfl ?_
          obtain ⟨g_11, hf⟩ := ga_e hf
          refine go_lald hC (b_62 _) g_11 dX12_carries_59 ?_
          refine go_aload_n hC dX12_carries_60 rfl 0 rfl ?_
          refine go_getl hC (j := 29) (idx := 253) (nm := "carryUnder") (ds := "J") (b_43 _) rfl rfl hn12 (Nat.le_of_ble_eq_true rfl) rfl rfl (List.mem_cons_of_mem _ (List.mem_append_left _ (List.mem_append_left _ (List.mem_of_getElem? (i := 1) rfl)))) (Or.inl rfl) dX12_carries_61 ?_
          refine go_iload_n hC dX12_carries_64 rfl 3 rfl ?_
          obtain ⟨r_12, hc, hf⟩ := bd_e1 hf
          refine go_callS hC (c_X12_told (h_10.2.1 62 x2.toNatClampNeg) (h_10.2.1 43 29) x3 h_10 r_12 hc) gX12_carries_X12_told rfl ⟨rfl, rfl⟩ 3 e_X12_told ⟨Nat.le_of_ble_eq_true rfl, Nat.le_of_ble_eq_true rfl⟩ rfl (st := []) (st1 := [.long r_12]) rfl rfl (Nat.le_of_ble_eq_true rfl) ⟨Nat.zero_le _, Nat.zero_le _⟩ dX12_carries_65 ?_
          obtain ⟨rfl, rfl⟩ := so_2 hf
          exact hret _ _ dX12_carries_68
        · replace hf := if_f c_14 hf
          obtain ⟨r_13, hc, hf⟩ := bd_e1 hf
          refine go_callS hC (c_X12_lost h r_13 hc) gX12_carries_X12_lost rfl ⟨rfl, rfl⟩ 0 e_X12_lost ⟨Nat.le_of_ble_eq_true rfl, Nat.le_of_ble_eq_true rfl⟩ rfl (st := []) (st1 := [.long r_13]) rfl rfl (Nat.le_of_ble_eq_true rfl) ⟨Nat.zero_le _, Nat.zero_le _⟩ dX12_carries_45 ?_
          obtain ⟨rfl, rfl⟩ := so_2 hf
          exact hret _ _ dX12_carries_48
def lb_X12_drop_61 (x1 : Int32) (x2 : Int32) (x3 : Int32) (h : PH) (x4 : Int64) (x6 : Int32) : Option ((Int64 × Int32) ⊕ (Int64 × Int32)) :=
  if x2 < x6 then (
  some (.inr (x4, x6)))
  else (
  ga_i x6 7 (
  bd_1 (f_X12_pieceFar x1 x6 h) fun r_17 =>
  lt_b (x4 + ((h.2.1 62 x6.toNatClampNeg) * ((r_17 / 1000).toInt64))) fun x4_18 =>
  lt_b (x6 + 1) fun x6_19 =>
  some (.inl (x4_18, x6_19))))
def f_X12_drop (x1 : Int32) (x2 : Int32) (x3 : Int32) (h : PH) : Option (Int64 × PH) :=
  bd_1 (f_X12_noWay x1 h) fun r_1 =>
  if r_1 = 0 then (
  ga_i x1 6 (
  bd_1 (f_X12_in x2.toInt64 0 (((h.1 60 x1.toNatClampNeg).toInt64) - 1) h) fun r_4 =>
  if r_4 = 0 then (
  bd_1 (f_X12_lost h) fun r_5 =>
  some (r_5, h))
  else (
  bd_1 (f_X12_in x3.toInt64 0 1 h) fun r_6 =>
  if r_6 = 0 then (
  bd_1 (f_X12_lost h) fun r_7 =>
  some (r_7, h))
  else (
  bd_1 (f_X12_cableOf x1 h) fun r_8 =>
  if 0 ≤ (lg_cmp r_8 0) then (
  bd_2 (f_X12_layCarries x1 h) fun r_9 h_10 =>
  bd_1 (lp_f (fun s => lb_X12_drop_61 x1 x2 x3 h_10 s.1 s.2) fu_l (0, 0)) fun s_21 =>
  ga_i x1 6 (
  if (h_10.1 58 x1.toNatClampNeg) = 2 then (
  bd_1 (f_X12_told s_21.1 (2 * (h_10.2.1 43 29)) x3 h_10) fun r_24 =>
  some (r_24, h_10))
  else (
  bd_1 (f_X12_told s_21.1 (h_10.2.1 43 29) x3 h_10) fun r_23 =>
  some (r_23, h_10))))
  else (
  bd_1 (f_X12_lost h) fun r_26 =>
  some (r_26, h))))))
  else (
  bd_1 (f_X12_lost h) fun r_2 =>
  some (r_2, h))
set_option maxRecDepth 100000 in
set_option maxHeartbeats 4000000 in
theorem lw_X12_drop_61 {C : GC} (hC : Cx C cX12_drop 7 wsX12_drop RX12 (some .long) (rm_d 4)) (x1 : Int32) (x2 : Int32) (x3 : Int32) (h : PH) : ∀ (n9 : Nat) (x4 : Int64) (x6 : Int32) (y : Int64 × Int32), lp_f (fun s => lb_X12_drop_61 x1 x2 x3 h s.1 s.2) n9 (x4, x6) = some y → ∀ (hk : Go l0_B C 0 0 98 [(0, .ref 43), (1, .int x1), (3, .int x3), (4, .long y.1)] [] h), Go l0_B C 0 0 61 [(0, .ref 43), (1, .int x1), (2, .int x2), (3, .int x3), (4, .long x4), (6, .int x6)] [] h := by
  have hn12 : ∀ w ∈ wsX120, w ∈ wsX12_drop := (fun _ hw => (List.mem_cons_of_mem _ (List.mem_append_right _ hw)))
  intro n9
  induction n9 with
  | zero =>
    intro x4 x6 y hlp
    cases hlp
  | succ n9 ih =>
    intro x4 x6 y hlp hk
    obtain ⟨k9, z, hk9, hf, hy⟩ := lp_e hlp
    cases hk9
    replace hf : lb_X12_drop_61 x1 x2 x3 h x4 x6 = some z := hf
    unfold lb_X12_drop_61 at hf
    refine go_iload hC dX12_drop_61 5 rfl ?_
    refine go_iload_n hC dX12_drop_63 rfl 2 rfl ?_
    refine go_icmp_gt hC dX12_drop_64 (tgt := 98) (by decide) (fun c_20 => ?_) (fun c_20 => ?_)
    · replace hf := if_t c_20 hf
      obtain rfl := so_1 hf
      obtain rfl := lp_x hy
      refine go_sub [0, 1, 3, 4] rfl ?_
      exact hk
    · replace hf := if_f c_20 hf
      refine go_lload hC dX12_drop_67 4 rfl ?_
      refine go_aload_n hC dX12_drop_69 rfl 0 rfl ?_
      refine go_getr hC (j := 30) (idx := 65) (nm := "carry") (ds := "[J") (b_43 _) rfl rfl hn12 (Nat.le_of_ble_eq_true rfl) rfl rfl (List.mem_cons_of_mem _ (List.mem_append_left _ (List.mem_append_left _ (List.mem_of_getElem? (i := 1) rfl)))) (Or.inl rfl) dX12_drop_70 ?_
      refine go_iload hC dX12_drop_73 5 rfl ?_
      obtain ⟨g_16, hf⟩ := ga_e hf
      refine go_lald hC (b_62 _) g_16 dX12_drop_75 ?_
      refine go_aload_n hC dX12_drop_76 rfl 0 rfl ?_
      refine go_iload_n hC dX12_drop_77 rfl 1 rfl ?_
      refine go_iload hC dX12_drop_78 5 rfl ?_
      obtain ⟨r_17, hc, hf⟩ := bd_e1 hf
      refine go_callV hC (c_X12_pieceFar x1 x6 h r_17 hc) gX12_drop_X12_pieceFar rfl ⟨rfl, rfl⟩ 2 e_X12_pieceFar ⟨Nat.le_of_ble_eq_true rfl, Nat.le_of_ble_eq_true rfl⟩ (b_43 _) rfl rfl (st := [.long (h.2.1 62 x6.toNatClampNeg), .long x4]) (st1 := [.int r_17, .long (h.2.1 62 x6.toNatClampNeg), .long x4]) rfl rfl (Nat.le_of_ble_eq_true rfl) ⟨Nat.zero_le _, Nat.zero_le _⟩ dX12_drop_80 ?_
      refine go_sipush hC dX12_drop_83 k16_1000 ?_
      refine go_idiv hC dX12_drop_86 (by decide) ?_
      refine go_i2l hC dX12_drop_87 ?_
      refine go_lmul hC dX12_drop_88 ?_
      refine go_ladd hC dX12_drop_89 ?_
      obtain ⟨x4_18, ex4_18, hf⟩ := lt_e hf
      refine go_topl ex4_18 ?_
      refine go_lstore hC dX12_drop_90 (Nat.le_of_ble_eq_true rfl) rfl ?_
      obtain ⟨x6_19, ex6_19, hf⟩ := lt_e hf
      refine go_iinc hC dX12_drop_92 5 rfl k1_1 ex6_19 (Nat.le_of_ble_eq_true rfl) rfl ?_
      refine go_goto hC dX12_drop_95 (tgt := 61) (by decide) ?_
      obtain rfl := so_1 hf
      refine go_sub [2, 3, 4, 5, 1, 0] rfl ?_
      exact ih x4_18 x6_19 _ (lp_c hy) hk
theorem e_X12_drop : yX12_drop.cls = RX12 ∧ yX12_drop.cls ≠ "java/lang/invoke/MethodHandle" ∧ yX12_drop.cls ≠ "java/lang/invoke/VarHandle" ∧ (parseMethodDescriptor yX12_drop.desc).map (fun d => d.parameters.length) = some 3 := by decide +kernel
set_option maxRecDepth 100000 in
set_option maxHeartbeats 4000000 in
theorem c_X12_drop (x1 : Int32) (x2 : Int32) (x3 : Int32) (h : PH) (h2 : PH) (r : Int64) (hf : f_X12_drop x1 x2 x3 h = some (r, h2)) : Con yX12_drop wsX12_drop (rm_d 4) l0_B [.ref 43, .int x1, .int x2, .int x3] h (some (.long r)) h2 := by
  have hn12 : ∀ w ∈ wsX120, w ∈ wsX12_drop := (fun _ hw => (List.mem_cons_of_mem _ (List.mem_append_right _ hw)))
  refine con_l (cc := cX12_drop) (nL := 7) (by decide) rfl (Nat.le_of_ble_eq_true rfl) ?_
  intro C hC hret
  change Go l0_B C 0 0 0 [(0, .ref 43), (1, .int x1), (2, .int x2), (3, .int x3)] [] h
  unfold f_X12_drop at hf
  refine go_aload_n hC dX12_drop_0 rfl 0 rfl ?_
  refine go_iload_n hC dX12_drop_1 rfl 1 rfl ?_
  obtain ⟨r_1, hc, hf⟩ := bd_e1 hf
  refine go_callV hC (c_X12_noWay x1 h r_1 hc) gX12_drop_X12_noWay rfl ⟨rfl, rfl⟩ 1 e_X12_noWay ⟨Nat.le_of_ble_eq_true rfl, Nat.le_of_ble_eq_true rfl⟩ (b_43 _) rfl rfl (st := []) (st1 := [.int r_1]) rfl rfl (Nat.le_of_ble_eq_true rfl) ⟨Nat.zero_le _, Nat.zero_le _⟩ dX12_drop_2 ?_
  refine go_if_ne hC dX12_drop_5 (tgt := 46) (by decide) (fun c_30 => ?_) (fun c_30 => ?_)
  · replace hf := if_f c_30 hf
    obtain ⟨r_2, hc, hf⟩ := bd_e1 hf
    refine go_callS hC (c_X12_lost h r_2 hc) gX12_drop_X12_lost rfl ⟨rfl, rfl⟩ 0 e_X12_lost ⟨Nat.le_of_ble_eq_true rfl, Nat.le_of_ble_eq_true rfl⟩ rfl (st := []) (st1 := [.long r_2]) rfl rfl (Nat.le_of_ble_eq_true rfl) ⟨Nat.zero_le _, Nat.zero_le _⟩ dX12_drop_46 ?_
    obtain ⟨rfl, rfl⟩ := so_2 hf
    exact hret _ _ dX12_drop_49
  · replace hf := if_t c_30 hf
    refine go_iload_n hC dX12_drop_8 rfl 2 rfl ?_
    refine go_i2l hC dX12_drop_9 ?_
    refine go_lconst hC dX12_drop_10 (v := 0) rfl ?_
    refine go_aload_n hC dX12_drop_11 rfl 0 rfl ?_
    refine go_getr hC (j := 27) (idx := 59) (nm := "wayMany") (ds := "[I") (b_43 _) rfl rfl hn12 (Nat.le_of_ble_eq_true rfl) rfl rfl (List.mem_cons_of_mem _ (List.mem_append_left _ (List.mem_append_left _ (List.mem_of_getElem? (i := 0) rfl)))) (Or.inl rfl) dX12_drop_12 ?_
    refine go_iload_n hC dX12_drop_15 rfl 1 rfl ?_
    obtain ⟨g_3, hf⟩ := ga_e hf
    refine go_iald hC (b_60 _) g_3 dX12_drop_16 ?_
    refine go_i2l hC dX12_drop_17 ?_
    refine go_lconst hC dX12_drop_18 (v := 1) rfl ?_
    refine go_lsub hC dX12_drop_19 ?_
    obtain ⟨r_4, hc, hf⟩ := bd_e1 hf
    refine go_callS hC (c_X12_in x2.toInt64 0 (((h.1 60 x1.toNatClampNeg).toInt64) - 1) h r_4 hc) gX12_drop_X12_in rfl ⟨rfl, rfl⟩ 3 e_X12_in ⟨Nat.le_of_ble_eq_true rfl, Nat.le_of_ble_eq_true rfl⟩ rfl (st := []) (st1 := [.int r_4]) rfl rfl (Nat.le_of_ble_eq_true rfl) ⟨Nat.zero_le _, Nat.zero_le _⟩ dX12_drop_20 ?_
    refine go_if_eq hC dX12_drop_23 (tgt := 46) (by decide) (fun c_29 => ?_) (fun c_29 => ?_)
    · replace hf := if_t c_29 hf
      obtain ⟨r_5, hc, hf⟩ := bd_e1 hf
      refine go_callS hC (c_X12_lost h r_5 hc) gX12_drop_X12_lost rfl ⟨rfl, rfl⟩ 0 e_X12_lost ⟨Nat.le_of_ble_eq_true rfl, Nat.le_of_ble_eq_true rfl⟩ rfl (st := []) (st1 := [.long r_5]) rfl rfl (Nat.le_of_ble_eq_true rfl) ⟨Nat.zero_le _, Nat.zero_le _⟩ dX12_drop_46 ?_
      obtain ⟨rfl, rfl⟩ := so_2 hf
      exact hret _ _ dX12_drop_49
    · replace hf := if_f c_29 hf
      refine go_iload_n hC dX12_drop_26 rfl 3 rfl ?_
      refine go_i2l hC dX12_drop_27 ?_
      refine go_lconst hC dX12_drop_28 (v := 0) rfl ?_
      refine go_lconst hC dX12_drop_29 (v := 1) rfl ?_
      obtain ⟨r_6, hc, hf⟩ := bd_e1 hf
      refine go_callS hC (c_X12_in x3.toInt64 0 1 h r_6 hc) gX12_drop_X12_in rfl ⟨rfl, rfl⟩ 3 e_X12_in ⟨Nat.le_of_ble_eq_true rfl, Nat.le_of_ble_eq_true rfl⟩ rfl (st := []) (st1 := [.int r_6]) rfl rfl (Nat.le_of_ble_eq_true rfl) ⟨Nat.zero_le _, Nat.zero_le _⟩ dX12_drop_30 ?_
      refine go_if_eq hC dX12_drop_33 (tgt := 46) (by decide) (fun c_28 => ?_) (fun c_28 => ?_)
      · replace hf := if_t c_28 hf
        obtain ⟨r_7, hc, hf⟩ := bd_e1 hf
        refine go_callS hC (c_X12_lost h r_7 hc) gX12_drop_X12_lost rfl ⟨rfl, rfl⟩ 0 e_X12_lost ⟨Nat.le_of_ble_eq_true rfl, Nat.le_of_ble_eq_true rfl⟩ rfl (st := []) (st1 := [.long r_7]) rfl rfl (Nat.le_of_ble_eq_true rfl) ⟨Nat.zero_le _, Nat.zero_le _⟩ dX12_drop_46 ?_
        obtain ⟨rfl, rfl⟩ := so_2 hf
        exact hret _ _ dX12_drop_49
      · replace hf := if_f c_28 hf
        refine go_aload_n hC dX12_drop_36 rfl 0 rfl ?_
        refine go_iload_n hC dX12_drop_37 rfl 1 rfl ?_
        obtain ⟨r_8, hc, hf⟩ := bd_e1 hf
        refine go_callV hC (c_X12_cableOf x1 h r_8 hc) gX12_drop_X12_cableOf rfl ⟨rfl, rfl⟩ 1 e_X12_cableOf ⟨Nat.le_of_ble_eq_true rfl, Nat.le_of_ble_eq_true rfl⟩ (b_43 _) rfl rfl (st := []) (st1 := [.long r_8]) rfl rfl (Nat.le_of_ble_eq_true rfl) ⟨Nat.zero_le _, Nat.zero_le _⟩ dX12_drop_38 ?_
        refine go_lconst hC dX12_drop_41 (v := 0) rfl ?_
        refine go_lcmp hC dX12_drop_42 ?_
        refine go_if_ge hC dX12_drop_43 (tgt := 50) (by decide) (fun c_27 => ?_) (fun c_27 => ?_)
        · replace hf := if_t c_27 hf
          refine go_aload_n hC dX12_drop_50 rfl 0 rfl ?_
          refine go_iload_n hC dX12_drop_51 rfl 1 rfl ?_
          obtain ⟨r_9, h_10, hc, hf⟩ := bd_e2 hf
          refine go_callV hC (c_X12_layCarries x1 h h_10 hc) gX12_drop_X12_layCarries rfl ⟨rfl, rfl⟩ 1 e_X12_layCarries ⟨Nat.le_of_ble_eq_true rfl, Nat.le_of_ble_eq_true rfl⟩ (b_43 _) rfl rfl (st := []) (st1 := []) rfl rfl (Nat.le_of_ble_eq_true rfl) ⟨Nat.zero_le _, Nat.zero_le _⟩ dX12_drop_52 ?_
          refine go_lconst hC dX12_drop_55 (v := 0) rfl ?_
          refine go_lstore hC dX12_drop_56 (Nat.le_of_ble_eq_true rfl) rfl ?_
          refine go_iconst hC dX12_drop_58 k1_0 ?_
          refine go_istore hC dX12_drop_59 (Nat.le_of_ble_eq_true rfl) rfl ?_
          obtain ⟨s_21, hl, hf⟩ := bd_e1 hf
          refine go_sub [2, 3, 4, 5, 1, 0] rfl ?_
          refine lw_X12_drop_61 hC x1 x2 x3 h_10 _ 0 0 s_21 hl ?_
          refine go_lload hC dX12_drop_98 3 rfl ?_
          refine go_aload_n hC dX12_drop_100 rfl 0 rfl ?_
          refine go_getr hC (j := 25) (idx := 53) (nm := "wayKind") (ds := "[I") (b_43 _) rfl rfl hn12 (Nat.le_of_ble_eq_true rfl) rfl rfl (List.mem_cons_of_mem _ (List.mem_append_left _ (List.mem_append_left _ (List.mem_of_getElem? (i := 2) rfl)))) (Or.inl rfl) dX12_drop_101 ?_
          refine go_iload_n hC dX12_drop_104 rfl 1 rfl ?_
          obtain ⟨g_22, hf⟩ := ga_e hf
          refine go_iald hC (b_58 _) g_22 dX12_drop_105 ?_
          refine go_iconst hC dX12_drop_106 k1_2 ?_
          refine go_icmp_ne hC dX12_drop_107 (tgt := 121) (by decide) (fun c_25 => ?_) (fun c_25 => ?_)
          · replace hf := if_f c_25 hf
            refine go_aload_n hC dX12_drop_121 rfl 0 rfl ?_
            refine go_getl hC (j := 29) (idx := 253) (nm := "carryUnder") (ds := "J") (b_43 _) rfl rfl hn12 (Nat.le_of_ble_eq_true rfl) rfl rfl (List.mem_cons_of_mem _ (List.mem_append_left _ (List.mem_append_left _ (List.mem_of_getElem? (i := 4) rfl)))) (Or.inl rfl) dX12_drop_122 ?_
            refine go_iload_n hC dX12_drop_125 rfl 2 rfl ?_
            obtain ⟨r_23, hc, hf⟩ := bd_e1 hf
            refine go_callS hC (c_X12_told s_21.1 (h_10.2.1 43 29) x3 h_10 r_23 hc) gX12_drop_X12_told rfl ⟨rfl, rfl⟩ 3 e_X12_told ⟨Nat.le_of_ble_eq_true rfl, Nat.le_of_ble_eq_true rfl⟩ rfl (st := []) (st1 := [.long r_23]) rfl rfl (Nat.le_of_ble_eq_true rfl) ⟨Nat.zero_le _, Nat.zero_le _⟩ dX12_drop_126 ?_
            obtain ⟨rfl, rfl⟩ := so_2 hf
            exact hret _ _ dX12_drop_129
          · replace hf := if_t c_25 hf
            refine go_ldc2 hC (v := 2) (List.mem_cons_of_mem _ (List.mem_append_left _ (List.mem_append_left _ (List.mem_of_getElem? (i := 3) rfl)))) dX12_drop_110 ?_
            refine go_aload_n hC dX12_drop_113 rfl 0 rfl ?_
            refine go_getl hC (j := 29) (idx := 253) (nm := "carryUnder") (ds := "J") (b_43 _) rfl rfl hn12 (Nat.le_of_ble_eq_true rfl) rfl rfl (List.mem_cons_of_mem _ (List.mem_append_left _ (List.mem_append_left _ (List.mem_of_getElem? (i := 4) rfl)))) (Or.inl rfl) dX12_drop_114 ?_
            refine go_lmul hC dX12_drop_117 ?_
            refine go_goto hC dX12_drop_118 (tgt := 125) (by decide) ?_
            refine go_iload_n hC dX12_drop_125 rfl 2 rfl ?_
            obtain ⟨r_24, hc, hf⟩ := bd_e1 hf
            refine go_callS hC (c_X12_told s_21.1 (2 * (h_10.2.1 43 29)) x3 h_10 r_24 hc) gX12_drop_X12_told rfl ⟨rfl, rfl⟩ 3 e_X12_told ⟨Nat.le_of_ble_eq_true rfl, Nat.le_of_ble_eq_true rfl⟩ rfl (st := []) (st1 := [.long r_24]) rfl rfl (Nat.le_of_ble_eq_true rfl) ⟨Nat.zero_le _, Nat.zero_le _⟩ dX12_drop_126 ?_
            obtain ⟨rfl, rfl⟩ := so_2 hf
            exact hret _ _ dX12_drop_129
        · replace hf := if_f c_27 hf
          obtain ⟨r_26, hc, hf⟩ := bd_e1 hf
          refine go_callS hC (c_X12_lost h r_26 hc) gX12_drop_X12_lost rfl ⟨rfl, rfl⟩ 0 e_X12_lost ⟨Nat.le_of_ble_eq_true rfl, Nat.le_of_ble_eq_true rfl⟩ rfl (st := []) (st1 := [.long r_26]) rfl rfl (Nat.le_of_ble_eq_true rfl) ⟨Nat.zero_le _, Nat.zero_le _⟩ dX12_drop_46 ?_
          obtain ⟨rfl, rfl⟩ := so_2 hf
          exact hret _ _ dX12_drop_49
def lb_X12_tooMuch_30 (x1 : Int32) (h : PH) (x2 : Int32) : Option ((Int32) ⊕ ((Int32 × PH) ⊕ (Int32))) :=
  bd_1 (f_X12_manyPieces x1 h) fun r_19 =>
  if r_19 ≤ x2 then (
  some (.inr (.inr x2)))
  else (
  ga_i x2 7 (
  if 0 ≤ (lg_cmp (h.2.1 62 x2.toNatClampNeg) 0) then (
  ga_i x2 7 (
  lt_b (h.2.1 62 x2.toNatClampNeg) fun x3_22 =>
  ga_i x1 6 (
  if (lg_cmp x3_22 (((h.1 59 x1.toNatClampNeg).toInt64) * (h.2.1 43 29))) ≤ 0 then (
  lt_b (x2 + 1) fun x2_24 =>
  some (.inl x2_24))
  else (
  some (.inr (.inl ((x2, h))))))))
  else (
  ga_i x2 7 (
  lt_b (-(h.2.1 62 x2.toNatClampNeg)) fun x3_27 =>
  ga_i x1 6 (
  if (lg_cmp x3_27 (((h.1 59 x1.toNatClampNeg).toInt64) * (h.2.1 43 29))) ≤ 0 then (
  lt_b (x2 + 1) fun x2_29 =>
  some (.inl x2_29))
  else (
  some (.inr (.inl ((x2, h))))))))))
def f_X12_tooMuch (x1 : Int32) (h : PH) : Option (Int32 × PH) :=
  bd_1 (f_X12_noWay x1 h) fun r_1 =>
  if r_1 = 0 then (
  bd_1 (f_X12_cableOf x1 h) fun r_2 =>
  if 0 ≤ (lg_cmp r_2 0) then (
  bd_2 (f_X12_layCarries x1 h) fun r_3 h_4 =>
  bd_1 (lp_f (fun s => lb_X12_tooMuch_30 x1 h_4 s) fu_l 0) fun s_33 => sw_b s_33 (fun r_35 => some r_35) fun e_34 =>
  some ((-9), h_4))
  else (
  some ((-3), h)))
  else (
  some ((-1), h))
set_option maxRecDepth 100000 in
set_option maxHeartbeats 4000000 in
theorem lw_X12_tooMuch_30 {C : GC} (hC : Cx C cX12_tooMuch 5 wsX12_tooMuch RX12 (some .int) (rm_d 4)) (x1 : Int32) (h : PH) : ∀ (n9 : Nat) (x2 : Int32) (y : (Int32 × PH) ⊕ (Int32)), lp_f (fun s => lb_X12_tooMuch_30 x1 h s) n9 x2 = some y → ∀ (hk : match y with | .inl r => (∀ (pc : Nat) (L : List (Nat × Value)), narrow .int (.int r.1) = .int r.1 → decode cX12_tooMuch pc = .ok (.ireturn, 1) → Go l0_B C 0 0 pc L [.int r.1] r.2) | .inr e => Go l0_B C 0 0 92 [] [] h), Go l0_B C 0 0 30 [(0, .ref 43), (1, .int x1), (2, .int x2)] [] h := by
  have hn12 : ∀ w ∈ wsX120, w ∈ wsX12_tooMuch := (fun _ hw => (List.mem_cons_of_mem _ (List.mem_append_right _ hw)))
  intro n9
  induction n9 with
  | zero =>
    intro x2 y hlp
    cases hlp
  | succ n9 ih =>
    intro x2 y hlp hk
    obtain ⟨k9, z, hk9, hf, hy⟩ := lp_e hlp
    cases hk9
    replace hf : lb_X12_tooMuch_30 x1 h x2 = some z := hf
    unfold lb_X12_tooMuch_30 at hf
    refine go_iload_n hC dX12_tooMuch_30 rfl 2 rfl ?_
    refine go_aload_n hC dX12_tooMuch_31 rfl 0 rfl ?_
    refine go_iload_n hC dX12_tooMuch_32 rfl 1 rfl ?_
    obtain ⟨r_19, hc, hf⟩ := bd_e1 hf
    refine go_callV hC (c_X12_manyPieces x1 h r_19 hc) gX12_tooMuch_X12_manyPieces rfl ⟨rfl, rfl⟩ 1 e_X12_manyPieces ⟨Nat.le_of_ble_eq_true rfl, Nat.le_of_ble_eq_true rfl⟩ (b_43 _) rfl rfl (st := [.int x2]) (st1 := [.int r_19, .int x2]) rfl rfl (Nat.le_of_ble_eq_true rfl) ⟨Nat.zero_le _, Nat.zero_le _⟩ dX12_tooMuch_33 ?_
    refine go_icmp_ge hC dX12_tooMuch_36 (tgt := 92) (by decide) (fun c_32 => ?_) (fun c_32 => ?_)
    · replace hf := if_t c_32 hf
      obtain rfl := so_1 hf
      obtain rfl := lp_x hy
      refine go_sub [] rfl ?_
      exact hk
    · replace hf := if_f c_32 hf
      refine go_aload_n hC dX12_tooMuch_39 rfl 0 rfl ?_
      refine go_getr hC (j := 30) (idx := 65) (nm := "carry") (ds := "[J") (b_43 _) rfl rfl hn12 (Nat.le_of_ble_eq_true rfl) rfl rfl (List.mem_cons_of_mem _ (List.mem_append_left _ (List.mem_append_left _ (List.mem_of_getElem? (i := 0) rfl)))) (Or.inl rfl) dX12_tooMuch_40 ?_
      refine go_iload_n hC dX12_tooMuch_43 rfl 2 rfl ?_
      obtain ⟨g_20, hf⟩ := ga_e hf
      refine go_lald hC (b_62 _) g_20 dX12_tooMuch_44 ?_
      refine go_lconst hC dX12_tooMuch_45 (v := 0) rfl ?_
      refine go_lcmp hC dX12_tooMuch_46 ?_
      refine go_if_ge hC dX12_tooMuch_47 (tgt := 60) (by decide) (fun c_31 => ?_) (fun c_31 => ?_)
      · replace hf := if_t c_31 hf
        refine go_aload_n hC dX12_tooMuch_60 rfl 0 rfl ?_
        refine go_getr hC (j := 30) (idx := 65) (nm := "carry") (ds := "[J") (b_43 _) rfl rfl hn12 (Nat.le_of_ble_eq_true rfl) rfl rfl (List.mem_cons_of_mem _ (List.mem_append_left _ (List.mem_append_left _ (List.mem_of_getElem? (i := 0) rfl)))) (Or.inl rfl) dX12_tooMuch_61 ?_
        refine go_iload_n hC dX12_tooMuch_64 rfl 2 rfl ?_
        obtain ⟨g_21, hf⟩ := ga_e hf
        refine go_lald hC (b_62 _) g_21 dX12_tooMuch_65 ?_
        obtain ⟨x3_22, ex3_22, hf⟩ := lt_e hf
        refine go_topl ex3_22 ?_
        refine go_lstore_n hC dX12_tooMuch_66 rfl (Nat.le_of_ble_eq_true rfl) rfl ?_
        refine go_lload_n hC dX12_tooMuch_67 rfl 0 rfl ?_
        refine go_aload_n hC dX12_tooMuch_68 rfl 1 rfl ?_
        refine go_getr hC (j := 26) (idx := 56) (nm := "wayFuse") (ds := "[I") (b_43 _) rfl rfl hn12 (Nat.le_of_ble_eq_true rfl) rfl rfl (List.mem_cons_of_mem _ (List.mem_append_left _ (List.mem_append_left _ (List.mem_of_getElem? (i := 1) rfl)))) (Or.inl rfl) dX12_tooMuch_69 ?_
        refine go_iload_n hC dX12_tooMuch_72 rfl 2 rfl ?_
        obtain ⟨g_23, hf⟩ := ga_e hf
        refine go_iald hC (b_59 _) g_23 dX12_tooMuch_73 ?_
        refine go_i2l hC dX12_tooMuch_74 ?_
        refine go_aload_n hC dX12_tooMuch_75 rfl 1 rfl ?_
        refine go_getl hC (j := 29) (idx := 253) (nm := "carryUnder") (ds := "J") (b_43 _) rfl rfl hn12 (Nat.le_of_ble_eq_true rfl) rfl rfl (List.mem_cons_of_mem _ (List.mem_append_left _ (List.mem_append_left _ (List.mem_of_getElem? (i := 2) rfl)))) (Or.inl rfl) dX12_tooMuch_76 ?_
        refine go_lmul hC dX12_tooMuch_79 ?_
        refine go_lcmp hC dX12_tooMuch_80 ?_
        refine go_if_le hC dX12_tooMuch_81 (tgt := 86) (by decide) (fun c_25 => ?_) (fun c_25 => ?_)
        · replace hf := if_t c_25 hf
          obtain ⟨x2_24, ex2_24, hf⟩ := lt_e hf
          refine go_iinc hC dX12_tooMuch_86 3 rfl k1_1 ex2_24 (Nat.le_of_ble_eq_true rfl) rfl ?_
          refine go_goto hC dX12_tooMuch_89 (tgt := 30) (by decide) ?_
          obtain rfl := so_1 hf
          refine go_sub [2, 3, 0] rfl ?_
          exact ih x2_24 _ (lp_c hy) hk
        · replace hf := if_f c_25 hf
          refine go_iload_n hC dX12_tooMuch_84 rfl 3 rfl ?_
          obtain rfl := so_1 hf
          obtain rfl := lp_x hy
          exact hk _ _ rfl dX12_tooMuch_85
      · replace hf := if_f c_31 hf
        refine go_aload_n hC dX12_tooMuch_50 rfl 0 rfl ?_
        refine go_getr hC (j := 30) (idx := 65) (nm := "carry") (ds := "[J") (b_43 _) rfl rfl hn12 (Nat.le_of_ble_eq_true rfl) rfl rfl (List.mem_cons_of_mem _ (List.mem_append_left _ (List.mem_append_left _ (List.mem_of_getElem? (i := 0) rfl)))) (Or.inl rfl) dX12_tooMuch_51 ?_
        refine go_iload_n hC dX12_tooMuch_54 rfl 2 rfl ?_
        obtain ⟨g_26, hf⟩ := ga_e hf
        refine go_lald hC (b_62 _) g_26 dX12_tooMuch_55 ?_
        refine go_lneg hC dX12_tooMuch_56 ?_
        refine go_goto hC dX12_tooMuch_57 (tgt := 66) (by decide) ?_
        obtain ⟨x3_27, ex3_27, hf⟩ := lt_e hf
        refine go_topl ex3_27 ?_
        refine go_lstore_n hC dX12_tooMuch_66 rfl (Nat.le_of_ble_eq_true rfl) rfl ?_
        refine go_lload_n hC dX12_tooMuch_67 rfl 0 rfl ?_
        refine go_aload_n hC dX12_tooMuch_68 rfl 1 rfl ?_
        refine go_getr hC (j := 26) (idx := 56) (nm := "wayFuse") (ds := "[I") (b_43 _) rfl rfl hn12 (Nat.le_of_ble_eq_true rfl) rfl rfl (List.mem_cons_of_mem _ (List.mem_append_left _ (List.mem_append_left _ (List.mem_of_getElem? (i := 1) rfl)))) (Or.inl rfl) dX12_tooMuch_69 ?_
        refine go_iload_n hC dX12_tooMuch_72 rfl 2 rfl ?_
        obtain ⟨g_28, hf⟩ := ga_e hf
        refine go_iald hC (b_59 _) g_28 dX12_tooMuch_73 ?_
        refine go_i2l hC dX12_tooMuch_74 ?_
        refine go_aload_n hC dX12_tooMuch_75 rfl 1 rfl ?_
        refine go_getl hC (j := 29) (idx := 253) (nm := "carryUnder") (ds := "J") (b_43 _) rfl rfl hn12 (Nat.le_of_ble_eq_true rfl) rfl rfl (List.mem_cons_of_mem _ (List.mem_append_left _ (List.mem_append_left _ (List.mem_of_getElem? (i := 2) rfl)))) (Or.inl rfl) dX12_tooMuch_76 ?_
        refine go_lmul hC dX12_tooMuch_79 ?_
        refine go_lcmp hC dX12_tooMuch_80 ?_
        refine go_if_le hC dX12_tooMuch_81 (tgt := 86) (by decide) (fun c_30 => ?_) (fun c_30 => ?_)
        · replace hf := if_t c_30 hf
          obtain ⟨x2_29, ex2_29, hf⟩ := lt_e hf
          refine go_iinc hC dX12_tooMuch_86 3 rfl k1_1 ex2_29 (Nat.le_of_ble_eq_true rfl) rfl ?_
          refine go_goto hC dX12_tooMuch_89 (tgt := 30) (by decide) ?_
          obtain rfl := so_1 hf
          refine go_sub [2, 3, 0] rfl ?_
          exact ih x2_29 _ (lp_c hy) hk
        · replace hf := if_f c_30 hf
          refine go_iload_n hC dX12_tooMuch_84 rfl 3 rfl ?_
          obtain rfl := so_1 hf
          obtain rfl := lp_x hy
          exact hk _ _ rfl dX12_tooMuch_85
theorem e_X12_tooMuch : yX12_tooMuch.cls = RX12 ∧ yX12_tooMuch.cls ≠ "java/lang/invoke/MethodHandle" ∧ yX12_tooMuch.cls ≠ "java/lang/invoke/VarHandle" ∧ (parseMethodDescriptor yX12_tooMuch.desc).map (fun d => d.parameters.length) = some 1 := by decide +kernel
set_option maxRecDepth 100000 in
set_option maxHeartbeats 4000000 in
theorem c_X12_tooMuch (x1 : Int32) (h : PH) (h2 : PH) (r : Int32) (hf : f_X12_tooMuch x1 h = some (r, h2)) : Con yX12_tooMuch wsX12_tooMuch (rm_d 4) l0_B [.ref 43, .int x1] h (some (.int r)) h2 := by
  have hn12 : ∀ w ∈ wsX120, w ∈ wsX12_tooMuch := (fun _ hw => (List.mem_cons_of_mem _ (List.mem_append_right _ hw)))
  refine con_i (ty := .int) (cc := cX12_tooMuch) (nL := 5) (by decide) rfl (Nat.le_of_ble_eq_true rfl) ?_
  intro C hC hret
  change Go l0_B C 0 0 0 [(0, .ref 43), (1, .int x1)] [] h
  unfold f_X12_tooMuch at hf
  refine go_aload_n hC dX12_tooMuch_0 rfl 0 rfl ?_
  refine go_iload_n hC dX12_tooMuch_1 rfl 1 rfl ?_
  obtain ⟨r_1, hc, hf⟩ := bd_e1 hf
  refine go_callV hC (c_X12_noWay x1 h r_1 hc) gX12_tooMuch_X12_noWay rfl ⟨rfl, rfl⟩ 1 e_X12_noWay ⟨Nat.le_of_ble_eq_true rfl, Nat.le_of_ble_eq_true rfl⟩ (b_43 _) rfl rfl (st := []) (st1 := [.int r_1]) rfl rfl (Nat.le_of_ble_eq_true rfl) ⟨Nat.zero_le _, Nat.zero_le _⟩ dX12_tooMuch_2 ?_
  refine go_if_eq hC dX12_tooMuch_5 (tgt := 10) (by decide) (fun c_37 => ?_) (fun c_37 => ?_)
  · replace hf := if_t c_37 hf
    refine go_aload_n hC dX12_tooMuch_10 rfl 0 rfl ?_
    refine go_iload_n hC dX12_tooMuch_11 rfl 1 rfl ?_
    obtain ⟨r_2, hc, hf⟩ := bd_e1 hf
    refine go_callV hC (c_X12_cableOf x1 h r_2 hc) gX12_tooMuch_X12_cableOf rfl ⟨rfl, rfl⟩ 1 e_X12_cableOf ⟨Nat.le_of_ble_eq_true rfl, Nat.le_of_ble_eq_true rfl⟩ (b_43 _) rfl rfl (st := []) (st1 := [.long r_2]) rfl rfl (Nat.le_of_ble_eq_true rfl) ⟨Nat.zero_le _, Nat.zero_le _⟩ dX12_tooMuch_12 ?_
    refine go_lconst hC dX12_tooMuch_15 (v := 0) rfl ?_
    refine go_lcmp hC dX12_tooMuch_16 ?_
    refine go_if_ge hC dX12_tooMuch_17 (tgt := 23) (by decide) (fun c_36 => ?_) (fun c_36 => ?_)
    · replace hf := if_t c_36 hf
      refine go_aload_n hC dX12_tooMuch_23 rfl 0 rfl ?_
      refine go_iload_n hC dX12_tooMuch_24 rfl 1 rfl ?_
      obtain ⟨r_3, h_4, hc, hf⟩ := bd_e2 hf
      refine go_callV hC (c_X12_layCarries x1 h h_4 hc) gX12_tooMuch_X12_layCarries rfl ⟨rfl, rfl⟩ 1 e_X12_layCarries ⟨Nat.le_of_ble_eq_true rfl, Nat.le_of_ble_eq_true rfl⟩ (b_43 _) rfl rfl (st := []) (st1 := []) rfl rfl (Nat.le_of_ble_eq_true rfl) ⟨Nat.zero_le _, Nat.zero_le _⟩ dX12_tooMuch_25 ?_
      refine go_iconst hC dX12_tooMuch_28 k1_0 ?_
      refine go_istore_n hC dX12_tooMuch_29 rfl (Nat.le_of_ble_eq_true rfl) rfl ?_
      obtain ⟨s_33, hl, hf⟩ := bd_e1 hf
      refine go_sub [1, 2, 0] rfl ?_
      refine lw_X12_tooMuch_30 hC x1 h_4 _ 0 s_33 hl ?_
      rcases s_33 with r_35 | e_34
      · replace hf : some r_35 = some _ := hf
        cases hf
        exact hret
      · replace hf := sw_r hf
        refine go_bipush hC dX12_tooMuch_92 k8_m9 ?_
        obtain ⟨rfl, rfl⟩ := so_2 hf
        exact hret _ _ rfl dX12_tooMuch_94
    · replace hf := if_f c_36 hf
      refine go_bipush hC dX12_tooMuch_20 k8_m3 ?_
      obtain ⟨rfl, rfl⟩ := so_2 hf
      exact hret _ _ rfl dX12_tooMuch_22
  · replace hf := if_f c_37 hf
    refine go_iconst hC dX12_tooMuch_8 k1_m1 ?_
    obtain ⟨rfl, rfl⟩ := so_2 hf
    exact hret _ _ rfl dX12_tooMuch_9
def f_X12_placeBy (x1 : Int32) (h : PH) : Option (Int32) :=
  if x1 = 8 then (
  some (h.1 43 2))
  else (
  ga_i x1 8 (
  some (h.1 54 x1.toNatClampNeg)))
theorem e_X12_placeBy : yX12_placeBy.cls = RX12 ∧ yX12_placeBy.cls ≠ "java/lang/invoke/MethodHandle" ∧ yX12_placeBy.cls ≠ "java/lang/invoke/VarHandle" ∧ (parseMethodDescriptor yX12_placeBy.desc).map (fun d => d.parameters.length) = some 1 := by decide +kernel
set_option maxRecDepth 100000 in
set_option maxHeartbeats 4000000 in
theorem c_X12_placeBy (x1 : Int32) (h : PH) (r : Int32) (hf : f_X12_placeBy x1 h = some r) : Con yX12_placeBy wsX12_placeBy (rm_d 0) l0_B [.ref 43, .int x1] h (some (.int r)) h := by
  have hn12 : ∀ w ∈ wsX120, w ∈ wsX12_placeBy := (fun _ hw => (List.mem_cons_of_mem _ (List.mem_append_right _ hw)))
  refine con_i (ty := .int) (cc := cX12_placeBy) (nL := 2) (by decide) rfl (Nat.le_of_ble_eq_true rfl) ?_
  intro C hC hret
  change Go l0_B C 0 0 0 [(0, .ref 43), (1, .int x1)] [] h
  unfold f_X12_placeBy at hf
  refine go_iload_n hC dX12_placeBy_0 rfl 1 rfl ?_
  refine go_bipush hC dX12_placeBy_1 k8_8 ?_
  refine go_icmp_ne hC dX12_placeBy_3 (tgt := 13) (by decide) (fun c_2 => ?_) (fun c_2 => ?_)
  · replace hf := if_f c_2 hf
    refine go_aload_n hC dX12_placeBy_13 rfl 0 rfl ?_
    refine go_getr hC (j := 20) (idx := 41) (nm := "placeOf") (ds := "[I") (b_43 _) rfl rfl hn12 (Nat.le_of_ble_eq_true rfl) rfl rfl (List.mem_cons_of_mem _ (List.mem_append_left _ (List.mem_of_getElem? (i := 1) rfl))) (Or.inl rfl) dX12_placeBy_14 ?_
    refine go_iload_n hC dX12_placeBy_17 rfl 1 rfl ?_
    obtain ⟨g_1, hf⟩ := ga_e hf
    refine go_iald hC (b_54 _) g_1 dX12_placeBy_18 ?_
    obtain rfl := so_1 hf
    exact hret _ _ rfl dX12_placeBy_19
  · replace hf := if_t c_2 hf
    refine go_aload_n hC dX12_placeBy_6 rfl 0 rfl ?_
    refine go_geti hC (j := 2) (idx := 167) (nm := "boxAt") (ds := "I") (b_43 _) rfl rfl hn12 (Nat.le_of_ble_eq_true rfl) rfl rfl (List.mem_cons_of_mem _ (List.mem_append_left _ (List.mem_of_getElem? (i := 0) rfl))) (Or.inl rfl) dX12_placeBy_7 ?_
    refine go_goto hC dX12_placeBy_10 (tgt := 19) (by decide) ?_
    obtain rfl := so_1 hf
    exact hret _ _ rfl dX12_placeBy_19
def f_X12_yardsBy (x1 : Int32) (x2 : Int32) (h : PH) : Option (Int32) :=
  bd_1 (f_X12_placeBy x1 h) fun r_1 =>
  bd_1 (f_X12_placeBy x2 h) fun r_2 =>
  ga_i ((8 * r_1) + r_2) 64 (
  lt_b (h.1 53 ((8 * r_1) + r_2).toNatClampNeg) fun x3_4 =>
  if x3_4 < 10000000 then (
  some (x3_4 / 1000))
  else (
  some 10000000))
theorem e_X12_yardsBy : yX12_yardsBy.cls = RX12 ∧ yX12_yardsBy.cls ≠ "java/lang/invoke/MethodHandle" ∧ yX12_yardsBy.cls ≠ "java/lang/invoke/VarHandle" ∧ (parseMethodDescriptor yX12_yardsBy.desc).map (fun d => d.parameters.length) = some 2 := by decide +kernel
set_option maxRecDepth 100000 in
set_option maxHeartbeats 4000000 in
theorem c_X12_yardsBy (x1 : Int32) (x2 : Int32) (h : PH) (r : Int32) (hf : f_X12_yardsBy x1 x2 h = some r) : Con yX12_yardsBy wsX12_yardsBy (rm_d 1) l0_B [.ref 43, .int x1, .int x2] h (some (.int r)) h := by
  have hn12 : ∀ w ∈ wsX120, w ∈ wsX12_yardsBy := (fun _ hw => (List.mem_cons_of_mem _ (List.mem_append_right _ hw)))
  refine con_i (ty := .int) (cc := cX12_yardsBy) (nL := 4) (by decide) rfl (Nat.le_of_ble_eq_true rfl) ?_
  intro C hC hret
  change Go l0_B C 0 0 0 [(0, .ref 43), (1, .int x1), (2, .int x2)] [] h
  unfold f_X12_yardsBy at hf
  refine go_aload_n hC dX12_yardsBy_0 rfl 0 rfl ?_
  refine go_getr hC (j := 18) (idx := 38) (nm := "far") (ds := "[I") (b_43 _) rfl rfl hn12 (Nat.le_of_ble_eq_true rfl) rfl rfl (List.mem_cons_of_mem _ (List.mem_append_left _ (List.mem_of_getElem? (i := 0) rfl))) (Or.inl rfl) dX12_yardsBy_1 ?_
  refine go_bipush hC dX12_yardsBy_4 k8_8 ?_
  refine go_aload_n hC dX12_yardsBy_6 rfl 0 rfl ?_
  refine go_iload_n hC dX12_yardsBy_7 rfl 1 rfl ?_
  obtain ⟨r_1, hc, hf⟩ := bd_e1 hf
  refine go_callV hC (c_X12_placeBy x1 h r_1 hc) gX12_yardsBy_X12_placeBy rfl ⟨rfl, rfl⟩ 1 e_X12_placeBy ⟨Nat.le_of_ble_eq_true rfl, Nat.le_of_ble_eq_true rfl⟩ (b_43 _) rfl rfl (st := [.int 8, .ref 53]) (st1 := [.int r_1, .int 8, .ref 53]) rfl rfl (Nat.le_of_ble_eq_true rfl) ⟨Nat.zero_le _, Nat.zero_le _⟩ dX12_yardsBy_8 ?_
  refine go_imul hC dX12_yardsBy_11 ?_
  refine go_aload_n hC dX12_yardsBy_12 rfl 0 rfl ?_
  refine go_iload_n hC dX12_yardsBy_13 rfl 2 rfl ?_
  obtain ⟨r_2, hc, hf⟩ := bd_e1 hf
  refine go_callV hC (c_X12_placeBy x2 h r_2 hc) gX12_yardsBy_X12_placeBy rfl ⟨rfl, rfl⟩ 1 e_X12_placeBy ⟨Nat.le_of_ble_eq_true rfl, Nat.le_of_ble_eq_true rfl⟩ (b_43 _) rfl rfl (st := [.int (8 * r_1), .ref 53]) (st1 := [.int r_2, .int (8 * r_1), .ref 53]) rfl rfl (Nat.le_of_ble_eq_true rfl) ⟨Nat.zero_le _, Nat.zero_le _⟩ dX12_yardsBy_14 ?_
  refine go_iadd hC dX12_yardsBy_17 ?_
  obtain ⟨g_3, hf⟩ := ga_e hf
  refine go_iald hC (b_53 _) g_3 dX12_yardsBy_18 ?_
  obtain ⟨x3_4, ex3_4, hf⟩ := lt_e hf
  refine go_topi ex3_4 ?_
  refine go_istore_n hC dX12_yardsBy_19 rfl (Nat.le_of_ble_eq_true rfl) rfl ?_
  refine go_iload_n hC dX12_yardsBy_20 rfl 0 rfl ?_
  refine go_ldc hC (v := 10000000) (List.mem_cons_of_mem _ (List.mem_append_left _ (List.mem_of_getElem? (i := 1) rfl))) dX12_yardsBy_21 ?_
  refine go_icmp_lt hC dX12_yardsBy_23 (tgt := 31) (by decide) (fun c_5 => ?_) (fun c_5 => ?_)
  · replace hf := if_t c_5 hf
    refine go_iload_n hC dX12_yardsBy_31 rfl 0 rfl ?_
    refine go_sipush hC dX12_yardsBy_32 k16_1000 ?_
    refine go_idiv hC dX12_yardsBy_35 (by decide) ?_
    obtain rfl := so_1 hf
    exact hret _ _ rfl dX12_yardsBy_36
  · replace hf := if_f c_5 hf
    refine go_ldc hC (v := 10000000) (List.mem_cons_of_mem _ (List.mem_append_left _ (List.mem_of_getElem? (i := 1) rfl))) dX12_yardsBy_26 ?_
    refine go_goto hC dX12_yardsBy_28 (tgt := 36) (by decide) ?_
    obtain rfl := so_1 hf
    exact hret _ _ rfl dX12_yardsBy_36
def lb_X12_layNeeds_64 (x1 : Int32) (x2 : Int32) (x3 : Int32) (h : PH) (x4 : Int32) (x5 : Int32) : Option ((Int32 × Int32) ⊕ (Int32 × Int32)) :=
  if (h.1 43 19) ≤ x5 then (
  some (.inr (x4, x5)))
  else (
  bd_1 (f_X12_hasBit x2 x5 h) fun r_15 =>
  if r_15 = 0 then (
  if x2 ≤ 0 then (
  lt_b (x5 + 1) fun x5_16 =>
  some (.inl (x4, x5_16)))
  else (
  bd_1 (f_X12_lesser x4 10000000 h) fun r_17 =>
  lt_b (x5 + 1) fun x5_18 =>
  some (.inl (r_17, x5_18))))
  else (
  bd_1 (f_X12_yardsBy x3 x5 h) fun r_20 =>
  ga_i ((9 * (x2 &&& (((1 : Int32) <<< (x5 &&& 31)) ^^^ (-1)))) + x5) 2304 (
  bd_1 (f_X12_lesser 10000000 (r_20 + (h.1 63 ((9 * (x2 &&& (((1 : Int32) <<< (x5 &&& 31)) ^^^ (-1)))) + x5).toNatClampNeg)) h) fun r_22 =>
  if x2 ≤ 0 then (
  lt_b (x5 + 1) fun x5_23 =>
  some (.inl (x4, x5_23)))
  else (
  bd_1 (f_X12_lesser x4 r_22 h) fun r_24 =>
  lt_b (x5 + 1) fun x5_25 =>
  some (.inl (r_24, x5_25))))))
def lb_X12_layNeeds_14 (x1 : Int32) (x2 : Int32) (x3 : Int32) (h : PH) : Option ((Int32 × PH) ⊕ (Int32 × PH)) :=
  if 9 ≤ x3 then (
  some (.inr (x3, h)))
  else (
  if x3 < (h.1 43 19) then (
  if x2 ≤ 0 then (
  if x1 = 1 then (
  bd_1 (f_X12_yardsBy x3 8 h) fun r_67 =>
  bd_1 (lp_f (fun s => lb_X12_layNeeds_64 x1 x2 x3 h s.1 s.2) fu_l (r_67, 0)) fun s_68 =>
  ga_i ((9 * x2) + x3) 2304 (
  lt_b (ph_i h 63 ((9 * x2) + x3).toNatClampNeg s_68.1) fun h_70 =>
  lt_b (x3 + 1) fun x3_71 =>
  some (.inl (x3_71, h_70))))
  else (
  bd_1 (lp_f (fun s => lb_X12_layNeeds_64 x1 x2 x3 h s.1 s.2) fu_l (0, 0)) fun s_63 =>
  ga_i ((9 * x2) + x3) 2304 (
  lt_b (ph_i h 63 ((9 * x2) + x3).toNatClampNeg s_63.1) fun h_65 =>
  lt_b (x3 + 1) fun x3_66 =>
  some (.inl (x3_66, h_65)))))
  else (
  bd_1 (lp_f (fun s => lb_X12_layNeeds_64 x1 x2 x3 h s.1 s.2) fu_l (10000000, 0)) fun s_73 =>
  ga_i ((9 * x2) + x3) 2304 (
  lt_b (ph_i h 63 ((9 * x2) + x3).toNatClampNeg s_73.1) fun h_75 =>
  lt_b (x3 + 1) fun x3_76 =>
  some (.inl (x3_76, h_75)))))
  else (
  if x3 = 8 then (
  if x2 ≤ 0 then (
  if x1 = 1 then (
  bd_1 (f_X12_yardsBy x3 8 h) fun r_83 =>
  bd_1 (lp_f (fun s => lb_X12_layNeeds_64 x1 x2 x3 h s.1 s.2) fu_l (r_83, 0)) fun s_84 =>
  ga_i ((9 * x2) + x3) 2304 (
  lt_b (ph_i h 63 ((9 * x2) + x3).toNatClampNeg s_84.1) fun h_86 =>
  lt_b (x3 + 1) fun x3_87 =>
  some (.inl (x3_87, h_86))))
  else (
  bd_1 (lp_f (fun s => lb_X12_layNeeds_64 x1 x2 x3 h s.1 s.2) fu_l (0, 0)) fun s_79 =>
  ga_i ((9 * x2) + x3) 2304 (
  lt_b (ph_i h 63 ((9 * x2) + x3).toNatClampNeg s_79.1) fun h_81 =>
  lt_b (x3 + 1) fun x3_82 =>
  some (.inl (x3_82, h_81)))))
  else (
  bd_1 (lp_f (fun s => lb_X12_layNeeds_64 x1 x2 x3 h s.1 s.2) fu_l (10000000, 0)) fun s_89 =>
  ga_i ((9 * x2) + x3) 2304 (
  lt_b (ph_i h 63 ((9 * x2) + x3).toNatClampNeg s_89.1) fun h_91 =>
  lt_b (x3 + 1) fun x3_92 =>
  some (.inl (x3_92, h_91)))))
  else (
  lt_b (x3 + 1) fun x3_78 =>
  some (.inl (x3_78, h)))))
def lb_X12_layNeeds_2 (x1 : Int32) (x2 : Int32) (h : PH) : Option ((Int32 × PH) ⊕ (Int32 × PH)) :=
  if ((1 : Int32) <<< ((h.1 43 19) &&& 31)) ≤ x2 then (
  some (.inr (x2, h)))
  else (
  bd_1 (lp_f (fun s => lb_X12_layNeeds_14 x1 x2 s.1 s.2) fu_l (0, h)) fun s_100 =>
  lt_b (x2 + 1) fun x2_101 =>
  some (.inl (x2_101, s_100.2)))
def f_X12_layNeeds (x1 : Int32) (h : PH) : Option (Unit × PH) :=
  bd_1 (lp_f (fun s => lb_X12_layNeeds_2 x1 s.1 s.2) fu_l (0, h)) fun s_103 =>
  some ((), s_103.2)
set_option maxRecDepth 100000 in
set_option maxHeartbeats 4000000 in
theorem lw_X12_layNeeds_64 {C : GC} (hC : Cx C cX12_layNeeds 7 wsX12_layNeeds RX12 none (rm_d 2)) (x1 : Int32) (x2 : Int32) (x3 : Int32) (h : PH) : ∀ (n9 : Nat) (x4 : Int32) (x5 : Int32) (y : Int32 × Int32), lp_f (fun s => lb_X12_layNeeds_64 x1 x2 x3 h s.1 s.2) n9 (x4, x5) = some y → ∀ (hk : Go l0_B C 0 0 145 [(0, .ref 43), (1, .int x1), (2, .int x2), (3, .int x3), (4, .int y.1)] [] h), Go l0_B C 0 0 64 [(0, .ref 43), (1, .int x1), (2, .int x2), (3, .int x3), (4, .int x4), (5, .int x5)] [] h := by
  have hn12 : ∀ w ∈ wsX120, w ∈ wsX12_layNeeds := (fun _ hw => (List.mem_cons_of_mem _ (List.mem_append_right _ hw)))
  intro n9
  induction n9 with
  | zero =>
    intro x4 x5 y hlp
    cases hlp
  | succ n9 ih =>
    intro x4 x5 y hlp hk
    obtain ⟨k9, z, hk9, hf, hy⟩ := lp_e hlp
    cases hk9
    replace hf : lb_X12_layNeeds_64 x1 x2 x3 h x4 x5 = some z := hf
    unfold lb_X12_layNeeds_64 at hf
    refine go_iload hC dX12_layNeeds_64 5 rfl ?_
    refine go_aload_n hC dX12_layNeeds_66 rfl 0 rfl ?_
    refine go_geti hC (j := 19) (idx := 170) (nm := "points") (ds := "I") (b_43 _) rfl rfl hn12 (Nat.le_of_ble_eq_true rfl) rfl rfl (List.mem_cons_of_mem _ (List.mem_append_left _ (List.mem_of_getElem? (i := 0) rfl))) (Or.inl rfl) dX12_layNeeds_67 ?_
    refine go_icmp_ge hC dX12_layNeeds_70 (tgt := 145) (by decide) (fun c_28 => ?_) (fun c_28 => ?_)
    · replace hf := if_t c_28 hf
      obtain rfl := so_1 hf
      obtain rfl := lp_x hy
      refine go_sub [0, 1, 2, 3, 4] rfl ?_
      exact hk
    · replace hf := if_f c_28 hf
      refine go_iload_n hC dX12_layNeeds_73 rfl 2 rfl ?_
      refine go_iload hC dX12_layNeeds_74 5 rfl ?_
      obtain ⟨r_15, hc, hf⟩ := bd_e1 hf
      refine go_callS hC (c_X12_hasBit x2 x5 h r_15 hc) gX12_layNeeds_X12_hasBit rfl ⟨rfl, rfl⟩ 2 e_X12_hasBit ⟨Nat.le_of_ble_eq_true rfl, Nat.le_of_ble_eq_true rfl⟩ rfl (st := []) (st1 := [.int r_15]) rfl rfl (Nat.le_of_ble_eq_true rfl) ⟨Nat.zero_le _, Nat.zero_le _⟩ dX12_layNeeds_76 ?_
      refine go_if_eq hC dX12_layNeeds_79 (tgt := 117) (by decide) (fun c_27 => ?_) (fun c_27 => ?_)
      · replace hf := if_t c_27 hf
        refine go_ldc hC (v := 10000000) (List.mem_cons_of_mem _ (List.mem_append_left _ (List.mem_of_getElem? (i := 1) rfl))) dX12_layNeeds_117 ?_
        refine go_istore hC dX12_layNeeds_119 (Nat.le_of_ble_eq_true rfl) rfl ?_
        refine go_iload_n hC dX12_layNeeds_121 rfl 3 rfl ?_
        refine go_if_le hC dX12_layNeeds_122 (tgt := 135) (by decide) (fun c_19 => ?_) (fun c_19 => ?_)
        · replace hf := if_t c_19 hf
          refine go_iload hC dX12_layNeeds_135 5 rfl ?_
          refine go_istore hC dX12_layNeeds_137 (Nat.le_of_ble_eq_true rfl) rfl ?_
          obtain ⟨x5_16, ex5_16, hf⟩ := lt_e hf
          refine go_iinc hC dX12_layNeeds_139 6 rfl k1_1 ex5_16 (Nat.le_of_ble_eq_true rfl) rfl ?_
          refine go_goto hC dX12_layNeeds_142 (tgt := 64) (by decide) ?_
          obtain rfl := so_1 hf
          refine go_sub [3, 4, 5, 6, 1, 0] rfl ?_
          exact ih x4 x5_16 _ (lp_c hy) hk
        · replace hf := if_f c_19 hf
          refine go_iload hC dX12_layNeeds_125 5 rfl ?_
          refine go_iload hC dX12_layNeeds_127 0 rfl ?_
          obtain ⟨r_17, hc, hf⟩ := bd_e1 hf
          refine go_callS hC (c_X12_lesser x4 10000000 h r_17 hc) gX12_layNeeds_X12_lesser rfl ⟨rfl, rfl⟩ 2 e_X12_lesser ⟨Nat.le_of_ble_eq_true rfl, Nat.le_of_ble_eq_true rfl⟩ rfl (st := []) (st1 := [.int r_17]) rfl rfl (Nat.le_of_ble_eq_true rfl) ⟨Nat.zero_le _, Nat.zero_le _⟩ dX12_layNeeds_129 ?_
          refine go_goto hC dX12_layNeeds_132 (tgt := 137) (by decide) ?_
          refine go_istore hC dX12_layNeeds_137 (Nat.le_of_ble_eq_true rfl) rfl ?_
          obtain ⟨x5_18, ex5_18, hf⟩ := lt_e hf
          refine go_iinc hC dX12_layNeeds_139 6 rfl k1_1 ex5_18 (Nat.le_of_ble_eq_true rfl) rfl ?_
          refine go_goto hC dX12_layNeeds_142 (tgt := 64) (by decide) ?_
          obtain rfl := so_1 hf
          refine go_sub [3, 4, 5, 6, 1, 0] rfl ?_
          exact ih r_17 x5_18 _ (lp_c hy) hk
      · replace hf := if_f c_27 hf
        refine go_ldc hC (v := 10000000) (List.mem_cons_of_mem _ (List.mem_append_left _ (List.mem_of_getElem? (i := 1) rfl))) dX12_layNeeds_82 ?_
        refine go_aload_n hC dX12_layNeeds_84 rfl 0 rfl ?_
        refine go_iload_n hC dX12_layNeeds_85 rfl 3 rfl ?_
        refine go_iload hC dX12_layNeeds_86 5 rfl ?_
        obtain ⟨r_20, hc, hf⟩ := bd_e1 hf
        refine go_callV hC (c_X12_yardsBy x3 x5 h r_20 hc) gX12_layNeeds_X12_yardsBy rfl ⟨rfl, rfl⟩ 2 e_X12_yardsBy ⟨Nat.le_of_ble_eq_true rfl, Nat.le_of_ble_eq_true rfl⟩ (b_43 _) rfl rfl (st := [.int 10000000]) (st1 := [.int r_20, .int 10000000]) rfl rfl (Nat.le_of_ble_eq_true rfl) ⟨Nat.zero_le _, Nat.zero_le _⟩ dX12_layNeeds_88 ?_
        refine go_aload_n hC dX12_layNeeds_91 rfl 0 rfl ?_
        refine go_getr hC (j := 31) (idx := 69) (nm := "needFrom") (ds := "[I") (b_43 _) rfl rfl hn12 (Nat.le_of_ble_eq_true rfl) rfl rfl (List.mem_cons_of_mem _ (List.mem_append_left _ (List.mem_of_getElem? (i := 2) rfl))) (Or.inl rfl) dX12_layNeeds_92 ?_
        refine go_bipush hC dX12_layNeeds_95 k8_9 ?_
        refine go_iload_n hC dX12_layNeeds_97 rfl 2 rfl ?_
        refine go_iconst hC dX12_layNeeds_98 k1_1 ?_
        refine go_iload hC dX12_layNeeds_99 5 rfl ?_
        refine go_ishl hC dX12_layNeeds_101 ?_
        refine go_iconst hC dX12_layNeeds_102 k1_m1 ?_
        refine go_ixor hC dX12_layNeeds_103 ?_
        refine go_iand hC dX12_layNeeds_104 ?_
        refine go_imul hC dX12_layNeeds_105 ?_
        refine go_iload hC dX12_layNeeds_106 5 rfl ?_
        refine go_iadd hC dX12_layNeeds_108 ?_
        obtain ⟨g_21, hf⟩ := ga_e hf
        refine go_iald hC (b_63 _) g_21 dX12_layNeeds_109 ?_
        refine go_iadd hC dX12_layNeeds_110 ?_
        obtain ⟨r_22, hc, hf⟩ := bd_e1 hf
        refine go_callS hC (c_X12_lesser 10000000 (r_20 + (h.1 63 ((9 * (x2 &&& (((1 : Int32) <<< (x5 &&& 31)) ^^^ (-1)))) + x5).toNatClampNeg)) h r_22 hc) gX12_layNeeds_X12_lesser rfl ⟨rfl, rfl⟩ 2 e_X12_lesser ⟨Nat.le_of_ble_eq_true rfl, Nat.le_of_ble_eq_true rfl⟩ rfl (st := []) (st1 := [.int r_22]) rfl rfl (Nat.le_of_ble_eq_true rfl) ⟨Nat.zero_le _, Nat.zero_le _⟩ dX12_layNeeds_111 ?_
        refine go_goto hC dX12_layNeeds_114 (tgt := 119) (by decide) ?_
        refine go_istore hC dX12_layNeeds_119 (Nat.le_of_ble_eq_true rfl) rfl ?_
        refine go_iload_n hC dX12_layNeeds_121 rfl 3 rfl ?_
        refine go_if_le hC dX12_layNeeds_122 (tgt := 135) (by decide) (fun c_26 => ?_) (fun c_26 => ?_)
        · replace hf := if_t c_26 hf
          refine go_iload hC dX12_layNeeds_135 5 rfl ?_
          refine go_istore hC dX12_layNeeds_137 (Nat.le_of_ble_eq_true rfl) rfl ?_
          obtain ⟨x5_23, ex5_23, hf⟩ := lt_e hf
          refine go_iinc hC dX12_layNeeds_139 6 rfl k1_1 ex5_23 (Nat.le_of_ble_eq_true rfl) rfl ?_
          refine go_goto hC dX12_layNeeds_142 (tgt := 64) (by decide) ?_
          obtain rfl := so_1 hf
          refine go_sub [3, 4, 5, 6, 1, 0] rfl ?_
          exact ih x4 x5_23 _ (lp_c hy) hk
        · replace hf := if_f c_26 hf
          refine go_iload hC dX12_layNeeds_125 5 rfl ?_
          refine go_iload hC dX12_layNeeds_127 0 rfl ?_
          obtain ⟨r_24, hc, hf⟩ := bd_e1 hf
          refine go_callS hC (c_X12_lesser x4 r_22 h r_24 hc) gX12_layNeeds_X12_lesser rfl ⟨rfl, rfl⟩ 2 e_X12_lesser ⟨Nat.le_of_ble_eq_true rfl, Nat.le_of_ble_eq_true rfl⟩ rfl (st := []) (st1 := [.int r_24]) rfl rfl (Nat.le_of_ble_eq_true rfl) ⟨Nat.zero_le _, Nat.zero_le _⟩ dX12_layNeeds_129 ?_
          refine go_goto hC dX12_layNeeds_132 (tgt := 137) (by decide) ?_
          refine go_istore hC dX12_layNeeds_137 (Nat.le_of_ble_eq_true rfl) rfl ?_
          obtain ⟨x5_25, ex5_25, hf⟩ := lt_e hf
          refine go_iinc hC dX12_layNeeds_139 6 rfl k1_1 ex5_25 (Nat.le_of_ble_eq_true rfl) rfl ?_
          refine go_goto hC dX12_layNeeds_142 (tgt := 64) (by decide) ?_
          obtain rfl := so_1 hf
          refine go_sub [3, 4, 5, 6, 1, 0] rfl ?_
          exact ih r_24 x5_25 _ (lp_c hy) hk
set_option maxRecDepth 100000 in
set_option maxHeartbeats 4000000 in
theorem lw_X12_layNeeds_14 {C : GC} (hC : Cx C cX12_layNeeds 7 wsX12_layNeeds RX12 none (rm_d 2)) (x1 : Int32) (x2 : Int32) : ∀ (n9 : Nat) (x3 : Int32) (h : PH) (y : Int32 × PH), lp_f (fun s => lb_X12_layNeeds_14 x1 x2 s.1 s.2) n9 (x3, h) = some y → ∀ (hk : Go l0_B C 0 0 164 [(0, .ref 43), (1, .int x1), (2, .int x2)] [] y.2), Go l0_B C 0 0 14 [(0, .ref 43), (1, .int x1), (2, .int x2), (3, .int x3)] [] h := by
  have hn12 : ∀ w ∈ wsX120, w ∈ wsX12_layNeeds := (fun _ hw => (List.mem_cons_of_mem _ (List.mem_append_right _ hw)))
  intro n9
  induction n9 with
  | zero =>
    intro x3 h y hlp
    cases hlp
  | succ n9 ih =>
    intro x3 h y hlp hk
    obtain ⟨k9, z, hk9, hf, hy⟩ := lp_e hlp
    cases hk9
    replace hf : lb_X12_layNeeds_14 x1 x2 x3 h = some z := hf
    unfold lb_X12_layNeeds_14 at hf
    refine go_iload_n hC dX12_layNeeds_14 rfl 3 rfl ?_
    refine go_bipush hC dX12_layNeeds_15 k8_9 ?_
    refine go_icmp_ge hC dX12_layNeeds_17 (tgt := 164) (by decide) (fun c_96 => ?_) (fun c_96 => ?_)
    · replace hf := if_t c_96 hf
      obtain rfl := so_1 hf
      obtain rfl := lp_x hy
      refine go_sub [0, 1, 2] rfl ?_
      exact hk
    · replace hf := if_f c_96 hf
      refine go_iload_n hC dX12_layNeeds_20 rfl 3 rfl ?_
      refine go_aload_n hC dX12_layNeeds_21 rfl 0 rfl ?_
      refine go_geti hC (j := 19) (idx := 170) (nm := "points") (ds := "I") (b_43 _) rfl rfl hn12 (Nat.le_of_ble_eq_true rfl) rfl rfl (List.mem_cons_of_mem _ (List.mem_append_left _ (List.mem_of_getElem? (i := 0) rfl))) (Or.inl rfl) dX12_layNeeds_22 ?_
      refine go_icmp_lt hC dX12_layNeeds_25 (tgt := 34) (by decide) (fun c_95 => ?_) (fun c_95 => ?_)
      · replace hf := if_t c_95 hf
        refine go_iload_n hC dX12_layNeeds_34 rfl 2 rfl ?_
        refine go_if_le hC dX12_layNeeds_35 (tgt := 43) (by decide) (fun c_77 => ?_) (fun c_77 => ?_)
        · replace hf := if_t c_77 hf
          refine go_iload_n hC dX12_layNeeds_43 rfl 1 rfl ?_
          refine go_iconst hC dX12_layNeeds_44 k1_1 ?_
          refine go_icmp_ne hC dX12_layNeeds_45 (tgt := 58) (by decide) (fun c_72 => ?_) (fun c_72 => ?_)
          · replace hf := if_f c_72 hf
            refine go_iconst hC dX12_layNeeds_58 k1_0 ?_
            refine go_istore hC dX12_layNeeds_59 (Nat.le_of_ble_eq_true rfl) rfl ?_
            refine go_iconst hC dX12_layNeeds_61 k1_0 ?_
            refine go_istore hC dX12_layNeeds_62 (Nat.le_of_ble_eq_true rfl) rfl ?_
            obtain ⟨s_63, hl, hf⟩ := bd_e1 hf
            refine go_sub [2, 3, 4, 5, 1, 0] rfl ?_
            refine lw_X12_layNeeds_64 hC x1 x2 x3 h _ 0 0 s_63 hl ?_
            refine go_aload_n hC dX12_layNeeds_145 rfl 0 rfl ?_
            refine go_getr hC (j := 31) (idx := 69) (nm := "needFrom") (ds := "[I") (b_43 _) rfl rfl hn12 (Nat.le_of_ble_eq_true rfl) rfl rfl (List.mem_cons_of_mem _ (List.mem_append_left _ (List.mem_of_getElem? (i := 2) rfl))) (Or.inl rfl) dX12_layNeeds_146 ?_
            refine go_bipush hC dX12_layNeeds_149 k8_9 ?_
            refine go_iload_n hC dX12_layNeeds_151 rfl 2 rfl ?_
            refine go_imul hC dX12_layNeeds_152 ?_
            refine go_iload_n hC dX12_layNeeds_153 rfl 3 rfl ?_
            refine go_iadd hC dX12_layNeeds_154 ?_
            refine go_iload hC dX12_layNeeds_155 4 rfl ?_
            obtain ⟨g_64, hf⟩ := ga_e hf
            obtain ⟨h_65, eh_65, hf⟩ := lt_e hf
            refine go_iast hC (b_63 _) g_64 dX12_layNeeds_157 ?_
            refine go_toph eh_65 ?_
            obtain ⟨x3_66, ex3_66, hf⟩ := lt_e hf
            refine go_iinc hC dX12_layNeeds_158 3 rfl k1_1 ex3_66 (Nat.le_of_ble_eq_true rfl) rfl ?_
            refine go_goto hC dX12_layNeeds_161 (tgt := 14) (by decide) ?_
            obtain rfl := so_1 hf
            refine go_sub [1, 2, 3, 0] rfl ?_
            exact ih x3_66 h_65 _ (lp_c hy) hk
          · replace hf := if_t c_72 hf
            refine go_aload_n hC dX12_layNeeds_48 rfl 0 rfl ?_
            refine go_iload_n hC dX12_layNeeds_49 rfl 3 rfl ?_
            refine go_bipush hC dX12_layNeeds_50 k8_8 ?_
            obtain ⟨r_67, hc, hf⟩ := bd_e1 hf
            refine go_callV hC (c_X12_yardsBy x3 8 h r_67 hc) gX12_layNeeds_X12_yardsBy rfl ⟨rfl, rfl⟩ 2 e_X12_yardsBy ⟨Nat.le_of_ble_eq_true rfl, Nat.le_of_ble_eq_true rfl⟩ (b_43 _) rfl rfl (st := []) (st1 := [.int r_67]) rfl rfl (Nat.le_of_ble_eq_true rfl) ⟨Nat.zero_le _, Nat.zero_le _⟩ dX12_layNeeds_52 ?_
            refine go_goto hC dX12_layNeeds_55 (tgt := 59) (by decide) ?_
            refine go_istore hC dX12_layNeeds_59 (Nat.le_of_ble_eq_true rfl) rfl ?_
            refine go_iconst hC dX12_layNeeds_61 k1_0 ?_
            refine go_istore hC dX12_layNeeds_62 (Nat.le_of_ble_eq_true rfl) rfl ?_
            obtain ⟨s_68, hl, hf⟩ := bd_e1 hf
            refine go_sub [2, 3, 4, 5, 1, 0] rfl ?_
            refine lw_X12_layNeeds_64 hC x1 x2 x3 h _ r_67 0 s_68 hl ?_
            refine go_aload_n hC dX12_layNeeds_145 rfl 0 rfl ?_
            refine go_getr hC (j := 31) (idx := 69) (nm := "needFrom") (ds := "[I") (b_43 _) rfl rfl hn12 (Nat.le_of_ble_eq_true rfl) rfl rfl (List.mem_cons_of_mem _ (List.mem_append_left _ (List.mem_of_getElem? (i := 2) rfl))) (Or.inl rfl) dX12_layNeeds_146 ?_
            refine go_bipush hC dX12_layNeeds_149 k8_9 ?_
            refine go_iload_n hC dX12_layNeeds_151 rfl 2 rfl ?_
            refine go_imul hC dX12_layNeeds_152 ?_
            refine go_iload_n hC dX12_layNeeds_153 rfl 3 rfl ?_
            refine go_iadd hC dX12_layNeeds_154 ?_
            refine go_iload hC dX12_layNeeds_155 4 rfl ?_
            obtain ⟨g_69, hf⟩ := ga_e hf
            obtain ⟨h_70, eh_70, hf⟩ := lt_e hf
            refine go_iast hC (b_63 _) g_69 dX12_layNeeds_157 ?_
            refine go_toph eh_70 ?_
            obtain ⟨x3_71, ex3_71, hf⟩ := lt_e hf
            refine go_iinc hC dX12_layNeeds_158 3 rfl k1_1 ex3_71 (Nat.le_of_ble_eq_true rfl) rfl ?_
            refine go_goto hC dX12_layNeeds_161 (tgt := 14) (by decide) ?_
            obtain rfl := so_1 hf
            refine go_sub [1, 2, 3, 0] rfl ?_
            exact ih x3_71 h_70 _ (lp_c hy) hk
        · replace hf := if_f c_77 hf
          refine go_ldc hC (v := 10000000) (List.mem_cons_of_mem _ (List.mem_append_left _ (List.mem_of_getElem? (i := 1) rfl))) dX12_layNeeds_38 ?_
          refine go_goto hC dX12_layNeeds_40 (tgt := 59) (by decide) ?_
          refine go_istore hC dX12_layNeeds_59 (Nat.le_of_ble_eq_true rfl) rfl ?_
          refine go_iconst hC dX12_layNeeds_61 k1_0 ?_
          refine go_istore hC dX12_layNeeds_62 (Nat.le_of_ble_eq_true rfl) rfl ?_
          obtain ⟨s_73, hl, hf⟩ := bd_e1 hf
          refine go_sub [2, 3, 4, 5, 1, 0] rfl ?_
          refine lw_X12_layNeeds_64 hC x1 x2 x3 h _ 10000000 0 s_73 hl ?_
          refine go_aload_n hC dX12_layNeeds_145 rfl 0 rfl ?_
          refine go_getr hC (j := 31) (idx := 69) (nm := "needFrom") (ds := "[I") (b_43 _) rfl rfl hn12 (Nat.le_of_ble_eq_true rfl) rfl rfl (List.mem_cons_of_mem _ (List.mem_append_left _ (List.mem_of_getElem? (i := 2) rfl))) (Or.inl rfl) dX12_layNeeds_146 ?_
          refine go_bipush hC dX12_layNeeds_149 k8_9 ?_
          refine go_iload_n hC dX12_layNeeds_151 rfl 2 rfl ?_
          refine go_imul hC dX12_layNeeds_152 ?_
          refine go_iload_n hC dX12_layNeeds_153 rfl 3 rfl ?_
          refine go_iadd hC dX12_layNeeds_154 ?_
          refine go_iload hC dX12_layNeeds_155 4 rfl ?_
          obtain ⟨g_74, hf⟩ := ga_e hf
          obtain ⟨h_75, eh_75, hf⟩ := lt_e hf
          refine go_iast hC (b_63 _) g_74 dX12_layNeeds_157 ?_
          refine go_toph eh_75 ?_
          obtain ⟨x3_76, ex3_76, hf⟩ := lt_e hf
          refine go_iinc hC dX12_layNeeds_158 3 rfl k1_1 ex3_76 (Nat.le_of_ble_eq_true rfl) rfl ?_
          refine go_goto hC dX12_layNeeds_161 (tgt := 14) (by decide) ?_
          obtain rfl := so_1 hf
          refine go_sub [1, 2, 3, 0] rfl ?_
          exact ih x3_76 h_75 _ (lp_c hy) hk
      · replace hf := if_f c_95 hf
        refine go_iload_n hC dX12_layNeeds_28 rfl 3 rfl ?_
        refine go_bipush hC dX12_layNeeds_29 k8_8 ?_
        refine go_icmp_ne hC dX12_layNeeds_31 (tgt := 158) (by decide) (fun c_94 => ?_) (fun c_94 => ?_)
        · replace hf := if_f c_94 hf
          obtain ⟨x3_78, ex3_78, hf⟩ := lt_e hf
          refine go_iinc hC dX12_layNeeds_158 3 rfl k1_1 ex3_78 (Nat.le_of_ble_eq_true rfl) rfl ?_
          refine go_goto hC dX12_layNeeds_161 (tgt := 14) (by decide) ?_
          obtain rfl := so_1 hf
          refine go_sub [1, 2, 3, 0] rfl ?_
          exact ih x3_78 h _ (lp_c hy) hk
        · replace hf := if_t c_94 hf
          refine go_iload_n hC dX12_layNeeds_34 rfl 2 rfl ?_
          refine go_if_le hC dX12_layNeeds_35 (tgt := 43) (by decide) (fun c_93 => ?_) (fun c_93 => ?_)
          · replace hf := if_t c_93 hf
            refine go_iload_n hC dX12_layNeeds_43 rfl 1 rfl ?_
            refine go_iconst hC dX12_layNeeds_44 k1_1 ?_
            refine go_icmp_ne hC dX12_layNeeds_45 (tgt := 58) (by decide) (fun c_88 => ?_) (fun c_88 => ?_)
            · replace hf := if_f c_88 hf
              refine go_iconst hC dX12_layNeeds_58 k1_0 ?_
              refine go_istore hC dX12_layNeeds_59 (Nat.le_of_ble_eq_true rfl) rfl ?_
              refine go_iconst hC dX12_layNeeds_61 k1_0 ?_
              refine go_istore hC dX12_layNeeds_62 (Nat.le_of_ble_eq_true rfl) rfl ?_
              obtain ⟨s_79, hl, hf⟩ := bd_e1 hf
              refine go_sub [2, 3, 4, 5, 1, 0] rfl ?_
              refine lw_X12_layNeeds_64 hC x1 x2 x3 h _ 0 0 s_79 hl ?_
              refine go_aload_n hC dX12_layNeeds_145 rfl 0 rfl ?_
              refine go_getr hC (j := 31) (idx := 69) (nm := "needFrom") (ds := "[I") (b_43 _) rfl rfl hn12 (Nat.le_of_ble_eq_true rfl) rfl rfl (List.mem_cons_of_mem _ (List.mem_append_left _ (List.mem_of_getElem? (i := 2) rfl))) (Or.inl rfl) dX12_layNeeds_146 ?_
              refine go_bipush hC dX12_layNeeds_149 k8_9 ?_
              refine go_iload_n hC dX12_layNeeds_151 rfl 2 rfl ?_
              refine go_imul hC dX12_layNeeds_152 ?_
              refine go_iload_n hC dX12_layNeeds_153 rfl 3 rfl ?_
              refine go_iadd hC dX12_layNeeds_154 ?_
              refine go_iload hC dX12_layNeeds_155 4 rfl ?_
              obtain ⟨g_80, hf⟩ := ga_e hf
              obtain ⟨h_81, eh_81, hf⟩ := lt_e hf
              refine go_iast hC (b_63 _) g_80 dX12_layNeeds_157 ?_
              refine go_toph eh_81 ?_
              obtain ⟨x3_82, ex3_82, hf⟩ := lt_e hf
              refine go_iinc hC dX12_layNeeds_158 3 rfl k1_1 ex3_82 (Nat.le_of_ble_eq_true rfl) rfl ?_
              refine go_goto hC dX12_layNeeds_161 (tgt := 14) (by decide) ?_
              obtain rfl := so_1 hf
              refine go_sub [1, 2, 3, 0] rfl ?_
              exact ih x3_82 h_81 _ (lp_c hy) hk
            · replace hf := if_t c_88 hf
              refine go_aload_n hC dX12_layNeeds_48 rfl 0 rfl ?_
              refine go_iload_n hC dX12_layNeeds_49 rfl 3 rfl ?_
              refine go_bipush hC dX12_layNeeds_50 k8_8 ?_
              obtain ⟨r_83, hc, hf⟩ := bd_e1 hf
              refine go_callV hC (c_X12_yardsBy x3 8 h r_83 hc) gX12_layNeeds_X12_yardsBy rfl ⟨rfl, rfl⟩ 2 e_X12_yardsBy ⟨Nat.le_of_ble_eq_true rfl, Nat.le_of_ble_eq_true rfl⟩ (b_43 _) rfl rfl (st := []) (st1 := [.int r_83]) rfl rfl (Nat.le_of_ble_eq_true rfl) ⟨Nat.zero_le _, Nat.zero_le _⟩ dX12_layNeeds_52 ?_
              refine go_goto hC dX12_layNeeds_55 (tgt := 59) (by decide) ?_
              refine go_istore hC dX12_layNeeds_59 (Nat.le_of_ble_eq_true rfl) rfl ?_
              refine go_iconst hC dX12_layNeeds_61 k1_0 ?_
              refine go_istore hC dX12_layNeeds_62 (Nat.le_of_ble_eq_true rfl) rfl ?_
              obtain ⟨s_84, hl, hf⟩ := bd_e1 hf
              refine go_sub [2, 3, 4, 5, 1, 0] rfl ?_
              refine lw_X12_layNeeds_64 hC x1 x2 x3 h _ r_83 0 s_84 hl ?_
              refine go_aload_n hC dX12_layNeeds_145 rfl 0 rfl ?_
              refine go_getr hC (j := 31) (idx := 69) (nm := "needFrom") (ds := "[I") (b_43 _) rfl rfl hn12 (Nat.le_of_ble_eq_true rfl) rfl rfl (List.mem_cons_of_mem _ (List.mem_append_left _ (List.mem_of_getElem? (i := 2) rfl))) (Or.inl rfl) dX12_layNeeds_146 ?_
              refine go_bipush hC dX12_layNeeds_149 k8_9 ?_
              refine go_iload_n hC dX12_layNeeds_151 rfl 2 rfl ?_
              refine go_imul hC dX12_layNeeds_152 ?_
              refine go_iload_n hC dX12_layNeeds_153 rfl 3 rfl ?_
              refine go_iadd hC dX12_layNeeds_154 ?_
              refine go_iload hC dX12_layNeeds_155 4 rfl ?_
              obtain ⟨g_85, hf⟩ := ga_e hf
              obtain ⟨h_86, eh_86, hf⟩ := lt_e hf
              refine go_iast hC (b_63 _) g_85 dX12_layNeeds_157 ?_
              refine go_toph eh_86 ?_
              obtain ⟨x3_87, ex3_87, hf⟩ := lt_e hf
              refine go_iinc hC dX12_layNeeds_158 3 rfl k1_1 ex3_87 (Nat.le_of_ble_eq_true rfl) rfl ?_
              refine go_goto hC dX12_layNeeds_161 (tgt := 14) (by decide) ?_
              obtain rfl := so_1 hf
              refine go_sub [1, 2, 3, 0] rfl ?_
              exact ih x3_87 h_86 _ (lp_c hy) hk
          · replace hf := if_f c_93 hf
            refine go_ldc hC (v := 10000000) (List.mem_cons_of_mem _ (List.mem_append_left _ (List.mem_of_getElem? (i := 1) rfl))) dX12_layNeeds_38 ?_
            refine go_goto hC dX12_layNeeds_40 (tgt := 59) (by decide) ?_
            refine go_istore hC dX12_layNeeds_59 (Nat.le_of_ble_eq_true rfl) rfl ?_
            refine go_iconst hC dX12_layNeeds_61 k1_0 ?_
            refine go_istore hC dX12_layNeeds_62 (Nat.le_of_ble_eq_true rfl) rfl ?_
            obtain ⟨s_89, hl, hf⟩ := bd_e1 hf
            refine go_sub [2, 3, 4, 5, 1, 0] rfl ?_
            refine lw_X12_layNeeds_64 hC x1 x2 x3 h _ 10000000 0 s_89 hl ?_
            refine go_aload_n hC dX12_layNeeds_145 rfl 0 rfl ?_
            refine go_getr hC (j := 31) (idx := 69) (nm := "needFrom") (ds := "[I") (b_43 _) rfl rfl hn12 (Nat.le_of_ble_eq_true rfl) rfl rfl (List.mem_cons_of_mem _ (List.mem_append_left _ (List.mem_of_getElem? (i := 2) rfl))) (Or.inl rfl) dX12_layNeeds_146 ?_
            refine go_bipush hC dX12_layNeeds_149 k8_9 ?_
            refine go_iload_n hC dX12_layNeeds_151 rfl 2 rfl ?_
            refine go_imul hC dX12_layNeeds_152 ?_
            refine go_iload_n hC dX12_layNeeds_153 rfl 3 rfl ?_
            refine go_iadd hC dX12_layNeeds_154 ?_
            refine go_iload hC dX12_layNeeds_155 4 rfl ?_
            obtain ⟨g_90, hf⟩ := ga_e hf
            obtain ⟨h_91, eh_91, hf⟩ := lt_e hf
            refine go_iast hC (b_63 _) g_90 dX12_layNeeds_157 ?_
            refine go_toph eh_91 ?_
            obtain ⟨x3_92, ex3_92, hf⟩ := lt_e hf
            refine go_iinc hC dX12_layNeeds_158 3 rfl k1_1 ex3_92 (Nat.le_of_ble_eq_true rfl) rfl ?_
            refine go_goto hC dX12_layNeeds_161 (tgt := 14) (by decide) ?_
            obtain rfl := so_1 hf
            refine go_sub [1, 2, 3, 0] rfl ?_
            exact ih x3_92 h_91 _ (lp_c hy) hk
set_option maxRecDepth 100000 in
set_option maxHeartbeats 4000000 in
theorem lw_X12_layNeeds_2 {C : GC} (hC : Cx C cX12_layNeeds 7 wsX12_layNeeds RX12 none (rm_d 2)) (x1 : Int32) : ∀ (n9 : Nat) (x2 : Int32) (h : PH) (y : Int32 × PH), lp_f (fun s => lb_X12_layNeeds_2 x1 s.1 s.2) n9 (x2, h) = some y → ∀ (hk : Go l0_B C 0 0 170 [] [] y.2), Go l0_B C 0 0 2 [(0, .ref 43), (1, .int x1), (2, .int x2)] [] h := by
  have hn12 : ∀ w ∈ wsX120, w ∈ wsX12_layNeeds := (fun _ hw => (List.mem_cons_of_mem _ (List.mem_append_right _ hw)))
  intro n9
  induction n9 with
  | zero =>
    intro x2 h y hlp
    cases hlp
  | succ n9 ih =>
    intro x2 h y hlp hk
    obtain ⟨k9, z, hk9, hf, hy⟩ := lp_e hlp
    cases hk9
    replace hf : lb_X12_layNeeds_2 x1 x2 h = some z := hf
    unfold lb_X12_layNeeds_2 at hf
    refine go_iload_n hC dX12_layNeeds_2 rfl 2 rfl ?_
    refine go_iconst hC dX12_layNeeds_3 k1_1 ?_
    refine go_aload_n hC dX12_layNeeds_4 rfl 0 rfl ?_
    refine go_geti hC (j := 19) (idx := 170) (nm := "points") (ds := "I") (b_43 _) rfl rfl hn12 (Nat.le_of_ble_eq_true rfl) rfl rfl (List.mem_cons_of_mem _ (List.mem_append_left _ (List.mem_of_getElem? (i := 0) rfl))) (Or.inl rfl) dX12_layNeeds_5 ?_
    refine go_ishl hC dX12_layNeeds_8 ?_
    refine go_icmp_ge hC dX12_layNeeds_9 (tgt := 170) (by decide) (fun c_102 => ?_) (fun c_102 => ?_)
    · replace hf := if_t c_102 hf
      obtain rfl := so_1 hf
      obtain rfl := lp_x hy
      refine go_sub [] rfl ?_
      exact hk
    · replace hf := if_f c_102 hf
      refine go_iconst hC dX12_layNeeds_12 k1_0 ?_
      refine go_istore_n hC dX12_layNeeds_13 rfl (Nat.le_of_ble_eq_true rfl) rfl ?_
      obtain ⟨s_100, hl, hf⟩ := bd_e1 hf
      refine go_sub [1, 2, 3, 0] rfl ?_
      refine lw_X12_layNeeds_14 hC x1 x2 _ 0 h s_100 hl ?_
      obtain ⟨x2_101, ex2_101, hf⟩ := lt_e hf
      refine go_iinc hC dX12_layNeeds_164 2 rfl k1_1 ex2_101 (Nat.le_of_ble_eq_true rfl) rfl ?_
      refine go_goto hC dX12_layNeeds_167 (tgt := 2) (by decide) ?_
      obtain rfl := so_1 hf
      refine go_sub [1, 2, 0] rfl ?_
      exact ih x2_101 s_100.2 _ (lp_c hy) hk
theorem e_X12_layNeeds : yX12_layNeeds.cls = RX12 ∧ yX12_layNeeds.cls ≠ "java/lang/invoke/MethodHandle" ∧ yX12_layNeeds.cls ≠ "java/lang/invoke/VarHandle" ∧ (parseMethodDescriptor yX12_layNeeds.desc).map (fun d => d.parameters.length) = some 1 := by decide +kernel
set_option maxRecDepth 100000 in
set_option maxHeartbeats 4000000 in
theorem c_X12_layNeeds (x1 : Int32) (h : PH) (h2 : PH) (hf : f_X12_layNeeds x1 h = some ((), h2)) : Con yX12_layNeeds wsX12_layNeeds (rm_d 2) l0_B [.ref 43, .int x1] h none h2 := by
  have hn12 : ∀ w ∈ wsX120, w ∈ wsX12_layNeeds := (fun _ hw => (List.mem_cons_of_mem _ (List.mem_append_right _ hw)))
  refine con_v (cc := cX12_layNeeds) (nL := 7) (by decide) rfl (Nat.le_of_ble_eq_true rfl) ?_
  intro C hC hret
  change Go l0_B C 0 0 0 [(0, .ref 43), (1, .int x1)] [] h
  unfold f_X12_layNeeds at hf
  refine go_iconst hC dX12_layNeeds_0 k1_0 ?_
  refine go_istore_n hC dX12_layNeeds_1 rfl (Nat.le_of_ble_eq_true rfl) rfl ?_
  obtain ⟨s_103, hl, hf⟩ := bd_e1 hf
  refine go_sub [1, 2, 0] rfl ?_
  refine lw_X12_layNeeds_2 hC x1 _ 0 h s_103 hl ?_
  obtain ⟨-, rfl⟩ := so_2 hf
  exact hret _ _ dX12_layNeeds_170
def f_X12_noSet (x1 : Int32) (h : PH) : Option (Int32) :=
  bd_1 (f_X12_in x1.toInt64 1 (((1 : Int64) <<< ((h.1 43 19).toInt64 &&& 63)) - 1) h) fun r_1 =>
  if r_1 = 0 then (
  some 1)
  else (
  some 0)
theorem e_X12_noSet : yX12_noSet.cls = RX12 ∧ yX12_noSet.cls ≠ "java/lang/invoke/MethodHandle" ∧ yX12_noSet.cls ≠ "java/lang/invoke/VarHandle" ∧ (parseMethodDescriptor yX12_noSet.desc).map (fun d => d.parameters.length) = some 1 := by decide +kernel
set_option maxRecDepth 100000 in
set_option maxHeartbeats 4000000 in
theorem c_X12_noSet (x1 : Int32) (h : PH) (r : Int32) (hf : f_X12_noSet x1 h = some r) : Con yX12_noSet wsX12_noSet (rm_d 1) l0_B [.ref 43, .int x1] h (some (.int r)) h := by
  have hn12 : ∀ w ∈ wsX120, w ∈ wsX12_noSet := (fun _ hw => (List.mem_cons_of_mem _ (List.mem_append_right _ hw)))
  refine con_i (ty := .boolean) (cc := cX12_noSet) (nL := 2) (by decide) rfl (Nat.le_of_ble_eq_true rfl) ?_
  intro C hC hret
  change Go l0_B C 0 0 0 [(0, .ref 43), (1, .int x1)] [] h
  unfold f_X12_noSet at hf
  refine go_iload_n hC dX12_noSet_0 rfl 1 rfl ?_
  refine go_i2l hC dX12_noSet_1 ?_
  refine go_lconst hC dX12_noSet_2 (v := 1) rfl ?_
  refine go_lconst hC dX12_noSet_3 (v := 1) rfl ?_
  refine go_aload_n hC dX12_noSet_4 rfl 0 rfl ?_
  refine go_geti hC (j := 19) (idx := 170) (nm := "points") (ds := "I") (b_43 _) rfl rfl hn12 (Nat.le_of_ble_eq_true rfl) rfl rfl (List.mem_cons_of_mem _ (List.mem_append_left _ (List.mem_of_getElem? (i := 0) rfl))) (Or.inl rfl) dX12_noSet_5 ?_
  refine go_lshl hC dX12_noSet_8 ?_
  refine go_lconst hC dX12_noSet_9 (v := 1) rfl ?_
  refine go_lsub hC dX12_noSet_10 ?_
  obtain ⟨r_1, hc, hf⟩ := bd_e1 hf
  refine go_callS hC (c_X12_in x1.toInt64 1 (((1 : Int64) <<< ((h.1 43 19).toInt64 &&& 63)) - 1) h r_1 hc) gX12_noSet_X12_in rfl ⟨rfl, rfl⟩ 3 e_X12_in ⟨Nat.le_of_ble_eq_true rfl, Nat.le_of_ble_eq_true rfl⟩ rfl (st := []) (st1 := [.int r_1]) rfl rfl (Nat.le_of_ble_eq_true rfl) ⟨Nat.zero_le _, Nat.zero_le _⟩ dX12_noSet_11 ?_
  refine go_if_ne hC dX12_noSet_14 (tgt := 21) (by decide) (fun c_2 => ?_) (fun c_2 => ?_)
  · replace hf := if_f c_2 hf
    refine go_iconst hC dX12_noSet_21 k1_0 ?_
    obtain rfl := so_1 hf
    exact hret _ _ (zo_n (Or.inl rfl)) dX12_noSet_22
  · replace hf := if_t c_2 hf
    refine go_iconst hC dX12_noSet_17 k1_1 ?_
    refine go_goto hC dX12_noSet_18 (tgt := 22) (by decide) ?_
    obtain rfl := so_1 hf
    exact hret _ _ (zo_n (Or.inr rfl)) dX12_noSet_22
def f_X12_least (x1 : Int32) (x2 : Int32) (h : PH) : Option (Int32 × PH) :=
  bd_1 (f_X12_noSet x1 h) fun r_1 =>
  if r_1 = 0 then (
  bd_1 (f_X12_in x2.toInt64 0 1 h) fun r_2 =>
  if r_2 = 0 then (
  some ((-2), h))
  else (
  bd_2 (f_X12_layNeeds x2 h) fun r_3 h_4 =>
  ga_i ((9 * x1) + 8) 2304 (
  lt_b (h_4.1 63 ((9 * x1) + 8).toNatClampNeg) fun x3_6 =>
  if x3_6 < 10000000 then (
  some (x3_6, h_4))
  else (
  some ((-9), h_4)))))
  else (
  some ((-2), h))
theorem e_X12_least : yX12_least.cls = RX12 ∧ yX12_least.cls ≠ "java/lang/invoke/MethodHandle" ∧ yX12_least.cls ≠ "java/lang/invoke/VarHandle" ∧ (parseMethodDescriptor yX12_least.desc).map (fun d => d.parameters.length) = some 2 := by decide +kernel
set_option maxRecDepth 100000 in
set_option maxHeartbeats 4000000 in
theorem c_X12_least (x1 : Int32) (x2 : Int32) (h : PH) (h2 : PH) (r : Int32) (hf : f_X12_least x1 x2 h = some (r, h2)) : Con yX12_least wsX12_least (rm_d 3) l0_B [.ref 43, .int x1, .int x2] h (some (.int r)) h2 := by
  have hn12 : ∀ w ∈ wsX120, w ∈ wsX12_least := (fun _ hw => (List.mem_cons_of_mem _ (List.mem_append_right _ hw)))
  refine con_i (ty := .int) (cc := cX12_least) (nL := 4) (by decide) rfl (Nat.le_of_ble_eq_true rfl) ?_
  intro C hC hret
  change Go l0_B C 0 0 0 [(0, .ref 43), (1, .int x1), (2, .int x2)] [] h
  unfold f_X12_least at hf
  refine go_aload_n hC dX12_least_0 rfl 0 rfl ?_
  refine go_iload_n hC dX12_least_1 rfl 1 rfl ?_
  obtain ⟨r_1, hc, hf⟩ := bd_e1 hf
  refine go_callV hC (c_X12_noSet x1 h r_1 hc) gX12_least_X12_noSet rfl ⟨rfl, rfl⟩ 1 e_X12_noSet ⟨Nat.le_of_ble_eq_true rfl, Nat.le_of_ble_eq_true rfl⟩ (b_43 _) rfl rfl (st := []) (st1 := [.int r_1]) rfl rfl (Nat.le_of_ble_eq_true rfl) ⟨Nat.zero_le _, Nat.zero_le _⟩ dX12_least_2 ?_
  refine go_if_ne hC dX12_least_5 (tgt := 18) (by decide) (fun c_9 => ?_) (fun c_9 => ?_)
  · replace hf := if_f c_9 hf
    refine go_bipush hC dX12_least_18 k8_m2 ?_
    obtain ⟨rfl, rfl⟩ := so_2 hf
    exact hret _ _ rfl dX12_least_20
  · replace hf := if_t c_9 hf
    refine go_iload_n hC dX12_least_8 rfl 2 rfl ?_
    refine go_i2l hC dX12_least_9 ?_
    refine go_lconst hC dX12_least_10 (v := 0) rfl ?_
    refine go_lconst hC dX12_least_11 (v := 1) rfl ?_
    obtain ⟨r_2, hc, hf⟩ := bd_e1 hf
    refine go_callS hC (c_X12_in x2.toInt64 0 1 h r_2 hc) gX12_least_X12_in rfl ⟨rfl, rfl⟩ 3 e_X12_in ⟨Nat.le_of_ble_eq_true rfl, Nat.le_of_ble_eq_true rfl⟩ rfl (st := []) (st1 := [.int r_2]) rfl rfl (Nat.le_of_ble_eq_true rfl) ⟨Nat.zero_le _, Nat.zero_le _⟩ dX12_least_12 ?_
    refine go_if_ne hC dX12_least_15 (tgt := 21) (by decide) (fun c_8 => ?_) (fun c_8 => ?_)
    · replace hf := if_f c_8 hf
      refine go_aload_n hC dX12_least_21 rfl 0 rfl ?_
      refine go_iload_n hC dX12_least_22 rfl 2 rfl ?_
      obtain ⟨r_3, h_4, hc, hf⟩ := bd_e2 hf
      refine go_callV hC (c_X12_layNeeds x2 h h_4 hc) gX12_least_X12_layNeeds rfl ⟨rfl, rfl⟩ 1 e_X12_layNeeds ⟨Nat.le_of_ble_eq_true rfl, Nat.le_of_ble_eq_true rfl⟩ (b_43 _) rfl rfl (st := []) (st1 := []) rfl rfl (Nat.le_of_ble_eq_true rfl) ⟨Nat.zero_le _, Nat.zero_le _⟩ dX12_least_23 ?_
      refine go_aload_n hC dX12_least_26 rfl 0 rfl ?_
      refine go_getr hC (j := 31) (idx := 69) (nm := "needFrom") (ds := "[I") (b_43 _) rfl rfl hn12 (Nat.le_of_ble_eq_true rfl) rfl rfl (List.mem_cons_of_mem _ (List.mem_append_left _ (List.mem_append_left _ (List.mem_of_getElem? (i := 0) rfl)))) (Or.inl rfl) dX12_least_27 ?_
      refine go_bipush hC dX12_least_30 k8_9 ?_
      refine go_iload_n hC dX12_least_32 rfl 1 rfl ?_
      refine go_imul hC dX12_least_33 ?_
      refine go_bipush hC dX12_least_34 k8_8 ?_
      refine go_iadd hC dX12_least_36 ?_
      obtain ⟨g_5, hf⟩ := ga_e hf
      refine go_iald hC (b_63 _) g_5 dX12_least_37 ?_
      obtain ⟨x3_6, ex3_6, hf⟩ := lt_e hf
      refine go_topi ex3_6 ?_
      refine go_istore_n hC dX12_least_38 rfl (Nat.le_of_ble_eq_true rfl) rfl ?_
      refine go_iload_n hC dX12_least_39 rfl 0 rfl ?_
      refine go_ldc hC (v := 10000000) (List.mem_cons_of_mem _ (List.mem_append_left _ (List.mem_append_left _ (List.mem_of_getElem? (i := 1) rfl)))) dX12_least_40 ?_
      refine go_icmp_lt hC dX12_least_42 (tgt := 50) (by decide) (fun c_7 => ?_) (fun c_7 => ?_)
      · replace hf := if_t c_7 hf
        refine go_iload_n hC dX12_least_50 rfl 0 rfl ?_
        obtain ⟨rfl, rfl⟩ := so_2 hf
        exact hret _ _ rfl dX12_least_51
      · replace hf := if_f c_7 hf
        refine go_bipush hC dX12_least_45 k8_m9 ?_
        refine go_goto hC dX12_least_47 (tgt := 51) (by decide) ?_
        obtain ⟨rfl, rfl⟩ := so_2 hf
        exact hret _ _ rfl dX12_least_51
    · replace hf := if_t c_8 hf
      refine go_bipush hC dX12_least_18 k8_m2 ?_
      obtain ⟨rfl, rfl⟩ := so_2 hf
      exact hret _ _ rfl dX12_least_20
def lb_X12_order_92 (x3 : Int32) (x4 : Int32) (x5 : Int32) (x7 : Int32) (h : PH) (x8 : Int32) (x9 : Int32) : Option ((Int32 × Int32) ⊕ (Int32 × Int32)) :=
  if x9 < 0 then (
  some (.inr (x8, x9)))
  else (
  bd_1 (f_X12_hasBit x4 x9 h) fun r_24 =>
  if r_24 = 0 then (
  if (0 : Int32) = 0 then (
  lt_b (x9 + (-1)) fun x9_25 =>
  some (.inl (x8, x9_25)))
  else (
  lt_b (x9 + (-1)) fun x9_26 =>
  some (.inl (x9, x9_26))))
  else (
  bd_1 (f_X12_yardsBy x5 x9 h) fun r_28 =>
  ga_i ((9 * (x4 &&& (((1 : Int32) <<< (x9 &&& 31)) ^^^ (-1)))) + x9) 2304 (
  ga_i ((9 * x4) + x5) 2304 (
  if (r_28 + (h.1 63 ((9 * (x4 &&& (((1 : Int32) <<< (x9 &&& 31)) ^^^ (-1)))) + x9).toNatClampNeg)) = (h.1 63 ((9 * x4) + x5).toNatClampNeg) then (
  if (1 : Int32) = 0 then (
  lt_b (x9 + (-1)) fun x9_34 =>
  some (.inl (x8, x9_34)))
  else (
  lt_b (x9 + (-1)) fun x9_35 =>
  some (.inl (x9, x9_35))))
  else (
  if (0 : Int32) = 0 then (
  lt_b (x9 + (-1)) fun x9_31 =>
  some (.inl (x8, x9_31)))
  else (
  lt_b (x9 + (-1)) fun x9_32 =>
  some (.inl (x9, x9_32))))))))
def lb_X12_order_74 (x3 : Int32) (h : PH) (x4 : Int32) (x5 : Int32) (x6 : Int32) (x7 : Int32) : Option ((Int32 × Int32 × Int32 × Int32) ⊕ ((Int32 × PH) ⊕ (Int32 × Int32 × Int32 × Int32))) :=
  if x3 < x7 then (
  some (.inr (.inr (x4, x5, x6, x7))))
  else (
  lt_b ((h.1 43 19) - 1) fun x9_45 =>
  bd_1 (lp_f (fun s => lb_X12_order_92 x3 x4 x5 x7 h s.1 s.2) fu_l ((-9), x9_45)) fun s_46 =>
  if 0 ≤ s_46.1 then (
  lt_b (x4 &&& (((1 : Int32) <<< (s_46.1 &&& 31)) ^^^ (-1))) fun x4_47 =>
  lt_b (x7 + 1) fun x7_48 =>
  some (.inl (x4_47, s_46.1, s_46.1, x7_48)))
  else (
  some (.inr (.inl (((-9), h))))))
def f_X12_order (x1 : Int32) (x2 : Int32) (x3 : Int32) (h : PH) : Option (Int32 × PH) :=
  bd_1 (f_X12_noSet x1 h) fun r_1 =>
  if r_1 = 0 then (
  bd_1 (f_X12_in x2.toInt64 0 1 h) fun r_2 =>
  if r_2 = 0 then (
  some ((-2), h))
  else (
  bd_1 (f_X12_in x3.toInt64 0 7 h) fun r_3 =>
  if r_3 = 0 then (
  some ((-1), h))
  else (
  bd_2 (f_X12_layNeeds x2 h) fun r_4 h_5 =>
  ga_i ((9 * x1) + 8) 2304 (
  if (h_5.1 63 ((9 * x1) + 8).toNatClampNeg) < 10000000 then (
  bd_1 (lp_f (fun s => lb_X12_order_74 x3 h_5 s.1 s.2.1 s.2.2.1 s.2.2.2) fu_l (x1, 8, (-9), 0)) fun s_51 => sw_b s_51 (fun r_53 => some r_53) fun e_52 =>
  some (e_52.2.2.1, h_5))
  else (
  some ((-9), h_5))))))
  else (
  some ((-2), h))
set_option maxRecDepth 100000 in
set_option maxHeartbeats 4000000 in
theorem lw_X12_order_92 {C : GC} (hC : Cx C cX12_order 11 wsX12_order RX12 (some .int) (rm_d 3)) (x3 : Int32) (x4 : Int32) (x5 : Int32) (x7 : Int32) (h : PH) : ∀ (n9 : Nat) (x8 : Int32) (x9 : Int32) (y : Int32 × Int32), lp_f (fun s => lb_X12_order_92 x3 x4 x5 x7 h s.1 s.2) n9 (x8, x9) = some y → ∀ (hk : Go l0_B C 0 0 179 [(0, .ref 43), (3, .int x3), (4, .int x4), (7, .int x7), (8, .int y.1)] [] h), Go l0_B C 0 0 92 [(0, .ref 43), (3, .int x3), (4, .int x4), (5, .int x5), (7, .int x7), (8, .int x8), (9, .int x9)] [] h := by
  have hn12 : ∀ w ∈ wsX120, w ∈ wsX12_order := (fun _ hw => (List.mem_cons_of_mem _ (List.mem_append_right _ hw)))
  intro n9
  induction n9 with
  | zero =>
    intro x8 x9 y hlp
    cases hlp
  | succ n9 ih =>
    intro x8 x9 y hlp hk
    obtain ⟨k9, z, hk9, hf, hy⟩ := lp_e hlp
    cases hk9
    replace hf : lb_X12_order_92 x3 x4 x5 x7 h x8 x9 = some z := hf
    unfold lb_X12_order_92 at hf
    refine go_iload hC dX12_order_92 6 rfl ?_
    refine go_if_lt hC dX12_order_94 (tgt := 179) (by decide) (fun c_39 => ?_) (fun c_39 => ?_)
    · replace hf := if_t c_39 hf
      obtain rfl := so_1 hf
      obtain rfl := lp_x hy
      refine go_sub [0, 1, 2, 4, 5] rfl ?_
      exact hk
    · replace hf := if_f c_39 hf
      refine go_iload hC dX12_order_97 2 rfl ?_
      refine go_iload hC dX12_order_99 6 rfl ?_
      obtain ⟨r_24, hc, hf⟩ := bd_e1 hf
      refine go_callS hC (c_X12_hasBit x4 x9 h r_24 hc) gX12_order_X12_hasBit rfl ⟨rfl, rfl⟩ 2 e_X12_hasBit ⟨Nat.le_of_ble_eq_true rfl, Nat.le_of_ble_eq_true rfl⟩ rfl (st := []) (st1 := [.int r_24]) rfl rfl (Nat.le_of_ble_eq_true rfl) ⟨Nat.zero_le _, Nat.zero_le _⟩ dX12_order_101 ?_
      refine go_if_eq hC dX12_order_104 (tgt := 156) (by decide) (fun c_38 => ?_) (fun c_38 => ?_)
      · replace hf := if_t c_38 hf
        refine go_iconst hC dX12_order_156 k1_0 ?_
        refine go_istore hC dX12_order_157 (Nat.le_of_ble_eq_true rfl) rfl ?_
        refine go_iload hC dX12_order_159 0 rfl ?_
        refine go_if_eq hC dX12_order_161 (tgt := 169) (by decide) (fun c_27 => ?_) (fun c_27 => ?_)
        · replace hf := if_t c_27 hf
          refine go_iload hC dX12_order_169 6 rfl ?_
          refine go_istore hC dX12_order_171 (Nat.le_of_ble_eq_true rfl) rfl ?_
          obtain ⟨x9_25, ex9_25, hf⟩ := lt_e hf
          refine go_iinc hC dX12_order_173 7 rfl k1_m1 ex9_25 (Nat.le_of_ble_eq_true rfl) rfl ?_
          refine go_goto hC dX12_order_176 (tgt := 92) (by decide) ?_
          obtain rfl := so_1 hf
          refine go_sub [3, 4, 5, 6, 7, 1, 0] rfl ?_
          exact ih x8 x9_25 _ (lp_c hy) hk
        · replace hf := if_f c_27 hf
          refine go_iload hC dX12_order_164 7 rfl ?_
          refine go_goto hC dX12_order_166 (tgt := 171) (by decide) ?_
          refine go_istore hC dX12_order_171 (Nat.le_of_ble_eq_true rfl) rfl ?_
          obtain ⟨x9_26, ex9_26, hf⟩ := lt_e hf
          refine go_iinc hC dX12_order_173 7 rfl k1_m1 ex9_26 (Nat.le_of_ble_eq_true rfl) rfl ?_
          refine go_goto hC dX12_order_176 (tgt := 92) (by decide) ?_
          obtain rfl := so_1 hf
          refine go_sub [3, 4, 5, 6, 7, 1, 0] rfl ?_
          exact ih x9 x9_26 _ (lp_c hy) hk
      · replace hf := if_f c_38 hf
        refine go_aload_n hC dX12_order_107 rfl 0 rfl ?_
        refine go_iload hC dX12_order_108 3 rfl ?_
        refine go_iload hC dX12_order_110 6 rfl ?_
        obtain ⟨r_28, hc, hf⟩ := bd_e1 hf
        refine go_callV hC (c_X12_yardsBy x5 x9 h r_28 hc) gX12_order_X12_yardsBy rfl ⟨rfl, rfl⟩ 2 e_X12_yardsBy ⟨Nat.le_of_ble_eq_true rfl, Nat.le_of_ble_eq_true rfl⟩ (b_43 _) rfl rfl (st := []) (st1 := [.int r_28]) rfl rfl (Nat.le_of_ble_eq_true rfl) ⟨Nat.zero_le _, Nat.zero_le _⟩ dX12_order_112 ?_
        refine go_aload_n hC dX12_order_115 rfl 0 rfl ?_
        refine go_getr hC (j := 31) (idx := 69) (nm := "needFrom") (ds := "[I") (b_43 _) rfl rfl hn12 (Nat.le_of_ble_eq_true rfl) rfl rfl (List.mem_cons_of_mem _ (List.mem_append_left _ (List.mem_append_left _ (List.mem_of_getElem? (i := 1) rfl)))) (Or.inl rfl) dX12_order_116 ?_
        refine go_bipush hC dX12_order_119 k8_9 ?_
        refine go_iload hC dX12_order_121 2 rfl ?_
        refine go_iconst hC dX12_order_123 k1_1 ?_
        refine go_iload hC dX12_order_124 6 rfl ?_
        refine go_ishl hC dX12_order_126 ?_
        refine go_iconst hC dX12_order_127 k1_m1 ?_
        refine go_ixor hC dX12_order_128 ?_
        refine go_iand hC dX12_order_129 ?_
        refine go_imul hC dX12_order_130 ?_
        refine go_iload hC dX12_order_131 6 rfl ?_
        refine go_iadd hC dX12_order_133 ?_
        obtain ⟨g_29, hf⟩ := ga_e hf
        refine go_iald hC (b_63 _) g_29 dX12_order_134 ?_
        refine go_iadd hC dX12_order_135 ?_
        refine go_aload_n hC dX12_order_136 rfl 0 rfl ?_
        refine go_getr hC (j := 31) (idx := 69) (nm := "needFrom") (ds := "[I") (b_43 _) rfl rfl hn12 (Nat.le_of_ble_eq_true rfl) rfl rfl (List.mem_cons_of_mem _ (List.mem_append_left _ (List.mem_append_left _ (List.mem_of_getElem? (i := 1) rfl)))) (Or.inl rfl) dX12_order_137 ?_
        refine go_bipush hC dX12_order_140 k8_9 ?_
        refine go_iload hC dX12_order_142 2 rfl ?_
        refine go_imul hC dX12_order_144 ?_
        refine go_iload hC dX12_order_145 3 rfl ?_
        refine go_iadd hC dX12_order_147 ?_
        obtain ⟨g_30, hf⟩ := ga_e hf
        refine go_iald hC (b_63 _) g_30 dX12_order_148 ?_
        refine go_icmp_ne hC dX12_order_149 (tgt := 156) (by decide) (fun c_37 => ?_) (fun c_37 => ?_)
        · replace hf := if_f c_37 hf
          refine go_iconst hC dX12_order_156 k1_0 ?_
          refine go_istore hC dX12_order_157 (Nat.le_of_ble_eq_true rfl) rfl ?_
          refine go_iload hC dX12_order_159 0 rfl ?_
          refine go_if_eq hC dX12_order_161 (tgt := 169) (by decide) (fun c_33 => ?_) (fun c_33 => ?_)
          · replace hf := if_t c_33 hf
            refine go_iload hC dX12_order_169 6 rfl ?_
            refine go_istore hC dX12_order_171 (Nat.le_of_ble_eq_true rfl) rfl ?_
            obtain ⟨x9_31, ex9_31, hf⟩ := lt_e hf
            refine go_iinc hC dX12_order_173 7 rfl k1_m1 ex9_31 (Nat.le_of_ble_eq_true rfl) rfl ?_
            refine go_goto hC dX12_order_176 (tgt := 92) (by decide) ?_
            obtain rfl := so_1 hf
            refine go_sub [3, 4, 5, 6, 7, 1, 0] rfl ?_
            exact ih x8 x9_31 _ (lp_c hy) hk
          · replace hf := if_f c_33 hf
            refine go_iload hC dX12_order_164 7 rfl ?_
            refine go_goto hC dX12_order_166 (tgt := 171) (by decide) ?_
            refine go_istore hC dX12_order_171 (Nat.le_of_ble_eq_true rfl) rfl ?_
            obtain ⟨x9_32, ex9_32, hf⟩ := lt_e hf
            refine go_iinc hC dX12_order_173 7 rfl k1_m1 ex9_32 (Nat.le_of_ble_eq_true rfl) rfl ?_
            refine go_goto hC dX12_order_176 (tgt := 92) (by decide) ?_
            obtain rfl := so_1 hf
            refine go_sub [3, 4, 5, 6, 7, 1, 0] rfl ?_
            exact ih x9 x9_32 _ (lp_c hy) hk
        · replace hf := if_t c_37 hf
          refine go_iconst hC dX12_order_152 k1_1 ?_
          refine go_goto hC dX12_order_153 (tgt := 157) (by decide) ?_
          refine go_istore hC dX12_order_157 (Nat.le_of_ble_eq_true rfl) rfl ?_
          refine go_iload hC dX12_order_159 0 rfl ?_
          refine go_if_eq hC dX12_order_161 (tgt := 169) (by decide) (fun c_36 => ?_) (fun c_36 => ?_)
          · replace hf := if_t c_36 hf
            refine go_iload hC dX12_order_169 6 rfl ?_
            refine go_istore hC dX12_order_171 (Nat.le_of_ble_eq_true rfl) rfl ?_
            obtain ⟨x9_34, ex9_34, hf⟩ := lt_e hf
            refine go_iinc hC dX12_order_173 7 rfl k1_m1 ex9_34 (Nat.le_of_ble_eq_true rfl) rfl ?_
            refine go_goto hC dX12_order_176 (tgt := 92) (by decide) ?_
            obtain rfl := so_1 hf
            refine go_sub [3, 4, 5, 6, 7, 1, 0] rfl ?_
            exact ih x8 x9_34 _ (lp_c hy) hk
          · replace hf := if_f c_36 hf
            refine go_iload hC dX12_order_164 7 rfl ?_
            refine go_goto hC dX12_order_166 (tgt := 171) (by decide) ?_
            refine go_istore hC dX12_order_171 (Nat.le_of_ble_eq_true rfl) rfl ?_
            obtain ⟨x9_35, ex9_35, hf⟩ := lt_e hf
            refine go_iinc hC dX12_order_173 7 rfl k1_m1 ex9_35 (Nat.le_of_ble_eq_true rfl) rfl ?_
            refine go_goto hC dX12_order_176 (tgt := 92) (by decide) ?_
            obtain rfl := so_1 hf
            refine go_sub [3, 4, 5, 6, 7, 1, 0] rfl ?_
            exact ih x9 x9_35 _ (lp_c hy) hk
set_option maxRecDepth 100000 in
set_option maxHeartbeats 4000000 in
theorem lw_X12_order_74 {C : GC} (hC : Cx C cX12_order 11 wsX12_order RX12 (some .int) (rm_d 3)) (x3 : Int32) (h : PH) : ∀ (n9 : Nat) (x4 : Int32) (x5 : Int32) (x6 : Int32) (x7 : Int32) (y : (Int32 × PH) ⊕ (Int32 × Int32 × Int32 × Int32)), lp_f (fun s => lb_X12_order_74 x3 h s.1 s.2.1 s.2.2.1 s.2.2.2) n9 (x4, x5, x6, x7) = some y → ∀ (hk : match y with | .inl r => (∀ (pc : Nat) (L : List (Nat × Value)), narrow .int (.int r.1) = .int r.1 → decode cX12_order pc = .ok (.ireturn, 1) → Go l0_B C 0 0 pc L [.int r.1] r.2) | .inr e => Go l0_B C 0 0 212 [(6, .int e.2.2.1)] [] h), Go l0_B C 0 0 74 [(0, .ref 43), (3, .int x3), (4, .int x4), (5, .int x5), (6, .int x6), (7, .int x7)] [] h := by
  have hn12 : ∀ w ∈ wsX120, w ∈ wsX12_order := (fun _ hw => (List.mem_cons_of_mem _ (List.mem_append_right _ hw)))
  intro n9
  induction n9 with
  | zero =>
    intro x4 x5 x6 x7 y hlp
    cases hlp
  | succ n9 ih =>
    intro x4 x5 x6 x7 y hlp hk
    obtain ⟨k9, z, hk9, hf, hy⟩ := lp_e hlp
    cases hk9
    replace hf : lb_X12_order_74 x3 h x4 x5 x6 x7 = some z := hf
    unfold lb_X12_order_74 at hf
    refine go_iload hC dX12_order_74 5 rfl ?_
    refine go_iload_n hC dX12_order_76 rfl 1 rfl ?_
    refine go_icmp_gt hC dX12_order_77 (tgt := 212) (by decide) (fun c_50 => ?_) (fun c_50 => ?_)
    · replace hf := if_t c_50 hf
      obtain rfl := so_1 hf
      obtain rfl := lp_x hy
      refine go_sub [4] rfl ?_
      exact hk
    · replace hf := if_f c_50 hf
      refine go_bipush hC dX12_order_80 k8_m9 ?_
      refine go_istore hC dX12_order_82 (Nat.le_of_ble_eq_true rfl) rfl ?_
      refine go_aload_n hC dX12_order_84 rfl 1 rfl ?_
      refine go_geti hC (j := 19) (idx := 170) (nm := "points") (ds := "I") (b_43 _) rfl rfl hn12 (Nat.le_of_ble_eq_true rfl) rfl rfl (List.mem_cons_of_mem _ (List.mem_append_left _ (List.mem_append_left _ (List.mem_of_getElem? (i := 3) rfl)))) (Or.inl rfl) dX12_order_85 ?_
      refine go_iconst hC dX12_order_88 k1_1 ?_
      refine go_isub hC dX12_order_89 ?_
      obtain ⟨x9_45, ex9_45, hf⟩ := lt_e hf
      refine go_topi ex9_45 ?_
      refine go_istore hC dX12_order_90 (Nat.le_of_ble_eq_true rfl) rfl ?_
      obtain ⟨s_46, hl, hf⟩ := bd_e1 hf
      refine go_sub [2, 3, 4, 5, 7, 1, 0] rfl ?_
      refine lw_X12_order_92 hC x3 x4 x5 x7 h _ (-9) x9_45 s_46 hl ?_
      refine go_iload hC dX12_order_179 4 rfl ?_
      refine go_istore hC dX12_order_181 (Nat.le_of_ble_eq_true rfl) rfl ?_
      refine go_iload hC dX12_order_183 5 rfl ?_
      refine go_if_ge hC dX12_order_185 (tgt := 191) (by decide) (fun c_49 => ?_) (fun c_49 => ?_)
      · replace hf := if_t c_49 hf
        refine go_iload hC dX12_order_191 3 rfl ?_
        refine go_iconst hC dX12_order_193 k1_1 ?_
        refine go_iload hC dX12_order_194 5 rfl ?_
        refine go_ishl hC dX12_order_196 ?_
        refine go_iconst hC dX12_order_197 k1_m1 ?_
        refine go_ixor hC dX12_order_198 ?_
        refine go_iand hC dX12_order_199 ?_
        obtain ⟨x4_47, ex4_47, hf⟩ := lt_e hf
        refine go_topi ex4_47 ?_
        refine go_istore hC dX12_order_200 (Nat.le_of_ble_eq_true rfl) rfl ?_
        refine go_iload hC dX12_order_202 5 rfl ?_
        refine go_istore hC dX12_order_204 (Nat.le_of_ble_eq_true rfl) rfl ?_
        obtain ⟨x7_48, ex7_48, hf⟩ := lt_e hf
        refine go_iinc hC dX12_order_206 5 rfl k1_1 ex7_48 (Nat.le_of_ble_eq_true rfl) rfl ?_
        refine go_goto hC dX12_order_209 (tgt := 74) (by decide) ?_
        obtain rfl := so_1 hf
        refine go_sub [4, 5, 2, 1, 3, 0] rfl ?_
        exact ih x4_47 s_46.1 s_46.1 x7_48 _ (lp_c hy) hk
      · replace hf := if_f c_49 hf
        refine go_bipush hC dX12_order_188 k8_m9 ?_
        obtain rfl := so_1 hf
        obtain rfl := lp_x hy
        exact hk _ _ rfl dX12_order_190
theorem e_X12_order : yX12_order.cls = RX12 ∧ yX12_order.cls ≠ "java/lang/invoke/MethodHandle" ∧ yX12_order.cls ≠ "java/lang/invoke/VarHandle" ∧ (parseMethodDescriptor yX12_order.desc).map (fun d => d.parameters.length) = some 3 := by decide +kernel
set_option maxRecDepth 100000 in
set_option maxHeartbeats 4000000 in
theorem c_X12_order (x1 : Int32) (x2 : Int32) (x3 : Int32) (h : PH) (h2 : PH) (r : Int32) (hf : f_X12_order x1 x2 x3 h = some (r, h2)) : Con yX12_order wsX12_order (rm_d 3) l0_B [.ref 43, .int x1, .int x2, .int x3] h (some (.int r)) h2 := by
  have hn12 : ∀ w ∈ wsX120, w ∈ wsX12_order := (fun _ hw => (List.mem_cons_of_mem _ (List.mem_append_right _ hw)))
  refine con_i (ty := .int) (cc := cX12_order) (nL := 11) (by decide) rfl (Nat.le_of_ble_eq_true rfl) ?_
  intro C hC hret
  change Go l0_B C 0 0 0 [(0, .ref 43), (1, .int x1), (2, .int x2), (3, .int x3)] [] h
  unfold f_X12_order at hf
  refine go_aload_n hC dX12_order_0 rfl 0 rfl ?_
  refine go_iload_n hC dX12_order_1 rfl 1 rfl ?_
  obtain ⟨r_1, hc, hf⟩ := bd_e1 hf
  refine go_callV hC (c_X12_noSet x1 h r_1 hc) gX12_order_X12_noSet rfl ⟨rfl, rfl⟩ 1 e_X12_noSet ⟨Nat.le_of_ble_eq_true rfl, Nat.le_of_ble_eq_true rfl⟩ (b_43 _) rfl rfl (st := []) (st1 := [.int r_1]) rfl rfl (Nat.le_of_ble_eq_true rfl) ⟨Nat.zero_le _, Nat.zero_le _⟩ dX12_order_2 ?_
  refine go_if_ne hC dX12_order_5 (tgt := 18) (by decide) (fun c_57 => ?_) (fun c_57 => ?_)
  · replace hf := if_f c_57 hf
    refine go_bipush hC dX12_order_18 k8_m2 ?_
    obtain ⟨rfl, rfl⟩ := so_2 hf
    exact hret _ _ rfl dX12_order_20
  · replace hf := if_t c_57 hf
    refine go_iload_n hC dX12_order_8 rfl 2 rfl ?_
    refine go_i2l hC dX12_order_9 ?_
    refine go_lconst hC dX12_order_10 (v := 0) rfl ?_
    refine go_lconst hC dX12_order_11 (v := 1) rfl ?_
    obtain ⟨r_2, hc, hf⟩ := bd_e1 hf
    refine go_callS hC (c_X12_in x2.toInt64 0 1 h r_2 hc) gX12_order_X12_in rfl ⟨rfl, rfl⟩ 3 e_X12_in ⟨Nat.le_of_ble_eq_true rfl, Nat.le_of_ble_eq_true rfl⟩ rfl (st := []) (st1 := [.int r_2]) rfl rfl (Nat.le_of_ble_eq_true rfl) ⟨Nat.zero_le _, Nat.zero_le _⟩ dX12_order_12 ?_
    refine go_if_ne hC dX12_order_15 (tgt := 21) (by decide) (fun c_56 => ?_) (fun c_56 => ?_)
    · replace hf := if_f c_56 hf
      refine go_iload_n hC dX12_order_21 rfl 3 rfl ?_
      refine go_i2l hC dX12_order_22 ?_
      refine go_lconst hC dX12_order_23 (v := 0) rfl ?_
      refine go_ldc2 hC (v := 7) (List.mem_cons_of_mem _ (List.mem_append_left _ (List.mem_append_left _ (List.mem_of_getElem? (i := 0) rfl)))) dX12_order_24 ?_
      obtain ⟨r_3, hc, hf⟩ := bd_e1 hf
      refine go_callS hC (c_X12_in x3.toInt64 0 7 h r_3 hc) gX12_order_X12_in rfl ⟨rfl, rfl⟩ 3 e_X12_in ⟨Nat.le_of_ble_eq_true rfl, Nat.le_of_ble_eq_true rfl⟩ rfl (st := []) (st1 := [.int r_3]) rfl rfl (Nat.le_of_ble_eq_true rfl) ⟨Nat.zero_le _, Nat.zero_le _⟩ dX12_order_27 ?_
      refine go_if_ne hC dX12_order_30 (tgt := 35) (by decide) (fun c_55 => ?_) (fun c_55 => ?_)
      · replace hf := if_f c_55 hf
        refine go_aload_n hC dX12_order_35 rfl 0 rfl ?_
        refine go_iload_n hC dX12_order_36 rfl 2 rfl ?_
        obtain ⟨r_4, h_5, hc, hf⟩ := bd_e2 hf
        refine go_callV hC (c_X12_layNeeds x2 h h_5 hc) gX12_order_X12_layNeeds rfl ⟨rfl, rfl⟩ 1 e_X12_layNeeds ⟨Nat.le_of_ble_eq_true rfl, Nat.le_of_ble_eq_true rfl⟩ (b_43 _) rfl rfl (st := []) (st1 := []) rfl rfl (Nat.le_of_ble_eq_true rfl) ⟨Nat.zero_le _, Nat.zero_le _⟩ dX12_order_37 ?_
        refine go_aload_n hC dX12_order_40 rfl 0 rfl ?_
        refine go_getr hC (j := 31) (idx := 69) (nm := "needFrom") (ds := "[I") (b_43 _) rfl rfl hn12 (Nat.le_of_ble_eq_true rfl) rfl rfl (List.mem_cons_of_mem _ (List.mem_append_left _ (List.mem_append_left _ (List.mem_of_getElem? (i := 1) rfl)))) (Or.inl rfl) dX12_order_41 ?_
        refine go_bipush hC dX12_order_44 k8_9 ?_
        refine go_iload_n hC dX12_order_46 rfl 1 rfl ?_
        refine go_imul hC dX12_order_47 ?_
        refine go_bipush hC dX12_order_48 k8_8 ?_
        refine go_iadd hC dX12_order_50 ?_
        obtain ⟨g_6, hf⟩ := ga_e hf
        refine go_iald hC (b_63 _) g_6 dX12_order_51 ?_
        refine go_ldc hC (v := 10000000) (List.mem_cons_of_mem _ (List.mem_append_left _ (List.mem_append_left _ (List.mem_of_getElem? (i := 2) rfl)))) dX12_order_52 ?_
        refine go_icmp_lt hC dX12_order_54 (tgt := 60) (by decide) (fun c_54 => ?_) (fun c_54 => ?_)
        · replace hf := if_t c_54 hf
          refine go_iload_n hC dX12_order_60 rfl 1 rfl ?_
          refine go_istore hC dX12_order_61 (Nat.le_of_ble_eq_true rfl) rfl ?_
          refine go_bipush hC dX12_order_63 k8_8 ?_
          refine go_istore hC dX12_order_65 (Nat.le_of_ble_eq_true rfl) rfl ?_
          refine go_bipush hC dX12_order_67 k8_m9 ?_
          refine go_istore hC dX12_order_69 (Nat.le_of_ble_eq_true rfl) rfl ?_
          refine go_iconst hC dX12_order_71 k1_0 ?_
          refine go_istore hC dX12_order_72 (Nat.le_of_ble_eq_true rfl) rfl ?_
          obtain ⟨s_51, hl, hf⟩ := bd_e1 hf
          refine go_sub [4, 7, 3, 2, 1, 0] rfl ?_
          refine lw_X12_order_74 hC x3 h_5 _ x1 8 (-9) 0 s_51 hl ?_
          rcases s_51 with r_53 | e_52
          · replace hf : some r_53 = some _ := hf
            cases hf
            exact hret
          · replace hf := sw_r hf
            refine go_iload hC dX12_order_212 0 rfl ?_
            obtain ⟨rfl, rfl⟩ := so_2 hf
            exact hret _ _ rfl dX12_order_214
        · replace hf := if_f c_54 hf
          refine go_bipush hC dX12_order_57 k8_m9 ?_
          obtain ⟨rfl, rfl⟩ := so_2 hf
          exact hret _ _ rfl dX12_order_59
      · replace hf := if_t c_55 hf
        refine go_iconst hC dX12_order_33 k1_m1 ?_
        obtain ⟨rfl, rfl⟩ := so_2 hf
        exact hret _ _ rfl dX12_order_34
    · replace hf := if_t c_56 hf
      refine go_bipush hC dX12_order_18 k8_m2 ?_
      obtain ⟨rfl, rfl⟩ := so_2 hf
      exact hret _ _ rfl dX12_order_20
def lb_X12_takeRow_2 (x1 : Int32) (x2 : Int32) (x3 : Int32) (h : PH) : Option ((Int32 × PH) ⊕ (Int32 × PH)) :=
  if 3 ≤ x3 then (
  some (.inr (x3, h)))
  else (
  ga_i x3 3 (
  lt_b (ph_i h 64 x3.toNatClampNeg 0) fun h_6 =>
  lt_b (x3 + 1) fun x3_7 =>
  some (.inl (x3_7, h_6))))
def lb_X12_takeRow_30 (x2 : Int32) (x3 : Int32) (x4 : Int32) (h : PH) : Option ((Int32 × Int32 × PH) ⊕ (Int32 × Int32 × PH)) :=
  if x4 < 0 then (
  some (.inr (x3, x4, h)))
  else (
  gz_i x2 (
  ga_i (x3 - x3 / x2 * x2) 3 (
  ga_i (x3 - x3 / x2 * x2) 3 (
  lt_b (ph_i h 64 (x3 - x3 / x2 * x2).toNatClampNeg ((h.1 64 (x3 - x3 / x2 * x2).toNatClampNeg) ||| ((1 : Int32) <<< (x4 &&& 31)))) fun h_22 =>
  gz_i x2 (
  lt_b (x3 / x2) fun x3_24 =>
  lt_b (x4 + (-1)) fun x4_25 =>
  some (.inl (x3_24, x4_25, h_22)))))))
def f_X12_takeRow (x1 : Int32) (x2 : Int32) (h : PH) : Option (Unit × PH) :=
  bd_1 (lp_f (fun s => lb_X12_takeRow_2 x1 x2 s.1 s.2) fu_l (0, h)) fun s_9 =>
  lt_b ((s_9.2.1 43 19) - 1) fun x4_10 =>
  bd_1 (lp_f (fun s => lb_X12_takeRow_30 x2 s.1 s.2.1 s.2.2) fu_l (x1, x4_10, s_9.2)) fun s_27 =>
  some ((), s_27.2.2)
set_option maxRecDepth 100000 in
set_option maxHeartbeats 4000000 in
theorem lw_X12_takeRow_2 {C : GC} (hC : Cx C cX12_takeRow 5 wsX12_takeRow RX12 none (rm_d 0)) (x1 : Int32) (x2 : Int32) : ∀ (n9 : Nat) (x3 : Int32) (h : PH) (y : Int32 × PH), lp_f (fun s => lb_X12_takeRow_2 x1 x2 s.1 s.2) n9 (x3, h) = some y → ∀ (hk : Go l0_B C 0 0 20 [(0, .ref 43), (1, .int x1), (2, .int x2)] [] y.2), Go l0_B C 0 0 2 [(0, .ref 43), (1, .int x1), (2, .int x2), (3, .int x3)] [] h := by
  have hn12 : ∀ w ∈ wsX120, w ∈ wsX12_takeRow := (fun _ hw => (List.mem_cons_of_mem _ (List.mem_append_right _ hw)))
  intro n9
  induction n9 with
  | zero =>
    intro x3 h y hlp
    cases hlp
  | succ n9 ih =>
    intro x3 h y hlp hk
    obtain ⟨k9, z, hk9, hf, hy⟩ := lp_e hlp
    cases hk9
    replace hf : lb_X12_takeRow_2 x1 x2 x3 h = some z := hf
    unfold lb_X12_takeRow_2 at hf
    refine go_iload_n hC dX12_takeRow_2 rfl 3 rfl ?_
    refine go_iconst hC dX12_takeRow_3 k1_3 ?_
    refine go_icmp_ge hC dX12_takeRow_4 (tgt := 20) (by decide) (fun c_8 => ?_) (fun c_8 => ?_)
    · replace hf := if_t c_8 hf
      obtain rfl := so_1 hf
      obtain rfl := lp_x hy
      refine go_sub [0, 1, 2] rfl ?_
      exact hk
    · replace hf := if_f c_8 hf
      refine go_aload_n hC dX12_takeRow_7 rfl 0 rfl ?_
      refine go_getr hC (j := 32) (idx := 72) (nm := "setOn") (ds := "[I") (b_43 _) rfl rfl hn12 (Nat.le_of_ble_eq_true rfl) rfl rfl (List.mem_cons_of_mem _ (List.mem_append_left _ (List.mem_of_getElem? (i := 0) rfl))) (Or.inl rfl) dX12_takeRow_8 ?_
      refine go_iload_n hC dX12_takeRow_11 rfl 3 rfl ?_
      refine go_iconst hC dX12_takeRow_12 k1_0 ?_
      obtain ⟨g_5, hf⟩ := ga_e hf
      obtain ⟨h_6, eh_6, hf⟩ := lt_e hf
      refine go_iast hC (b_64 _) g_5 dX12_takeRow_13 ?_
      refine go_toph eh_6 ?_
      obtain ⟨x3_7, ex3_7, hf⟩ := lt_e hf
      refine go_iinc hC dX12_takeRow_14 3 rfl k1_1 ex3_7 (Nat.le_of_ble_eq_true rfl) rfl ?_
      refine go_goto hC dX12_takeRow_17 (tgt := 2) (by decide) ?_
      obtain rfl := so_1 hf
      refine go_sub [1, 2, 3, 0] rfl ?_
      exact ih x3_7 h_6 _ (lp_c hy) hk
set_option maxRecDepth 100000 in
set_option maxHeartbeats 4000000 in
theorem lw_X12_takeRow_30 {C : GC} (hC : Cx C cX12_takeRow 5 wsX12_takeRow RX12 none (rm_d 0)) (x2 : Int32) : ∀ (n9 : Nat) (x3 : Int32) (x4 : Int32) (h : PH) (y : Int32 × Int32 × PH), lp_f (fun s => lb_X12_takeRow_30 x2 s.1 s.2.1 s.2.2) n9 (x3, x4, h) = some y → ∀ (hk : Go l0_B C 0 0 60 [] [] y.2.2), Go l0_B C 0 0 30 [(0, .ref 43), (2, .int x2), (3, .int x3), (4, .int x4)] [] h := by
  have hn12 : ∀ w ∈ wsX120, w ∈ wsX12_takeRow := (fun _ hw => (List.mem_cons_of_mem _ (List.mem_append_right _ hw)))
  intro n9
  induction n9 with
  | zero =>
    intro x3 x4 h y hlp
    cases hlp
  | succ n9 ih =>
    intro x3 x4 h y hlp hk
    obtain ⟨k9, z, hk9, hf, hy⟩ := lp_e hlp
    cases hk9
    replace hf : lb_X12_takeRow_30 x2 x3 x4 h = some z := hf
    unfold lb_X12_takeRow_30 at hf
    refine go_iload hC dX12_takeRow_30 3 rfl ?_
    refine go_if_lt hC dX12_takeRow_32 (tgt := 60) (by decide) (fun c_26 => ?_) (fun c_26 => ?_)
    · replace hf := if_t c_26 hf
      obtain rfl := so_1 hf
      obtain rfl := lp_x hy
      refine go_sub [] rfl ?_
      exact hk
    · replace hf := if_f c_26 hf
      refine go_aload_n hC dX12_takeRow_35 rfl 0 rfl ?_
      refine go_getr hC (j := 32) (idx := 72) (nm := "setOn") (ds := "[I") (b_43 _) rfl rfl hn12 (Nat.le_of_ble_eq_true rfl) rfl rfl (List.mem_cons_of_mem _ (List.mem_append_left _ (List.mem_of_getElem? (i := 0) rfl))) (Or.inl rfl) dX12_takeRow_36 ?_
      refine go_iload_n hC dX12_takeRow_39 rfl 2 rfl ?_
      refine go_iload_n hC dX12_takeRow_40 rfl 1 rfl ?_
      obtain ⟨g_19, hf⟩ := gz_e hf
      refine go_irem hC dX12_takeRow_41 g_19 ?_
      refine go_dup2 hC dX12_takeRow_42 rfl rfl ?_
      obtain ⟨g_20, hf⟩ := ga_e hf
      refine go_iald hC (b_64 _) g_20 dX12_takeRow_43 ?_
      refine go_iconst hC dX12_takeRow_44 k1_1 ?_
      refine go_iload hC dX12_takeRow_45 3 rfl ?_
      refine go_ishl hC dX12_takeRow_47 ?_
      refine go_ior hC dX12_takeRow_48 ?_
      obtain ⟨g_21, hf⟩ := ga_e hf
      obtain ⟨h_22, eh_22, hf⟩ := lt_e hf
      refine go_iast hC (b_64 _) g_21 dX12_takeRow_49 ?_
      refine go_toph eh_22 ?_
      refine go_iload_n hC dX12_takeRow_50 rfl 2 rfl ?_
      refine go_iload_n hC dX12_takeRow_51 rfl 1 rfl ?_
      obtain ⟨g_23, hf⟩ := gz_e hf
      refine go_idiv hC dX12_takeRow_52 g_23 ?_
      obtain ⟨x3_24, ex3_24, hf⟩ := lt_e hf
      refine go_topi ex3_24 ?_
      refine go_istore_n hC dX12_takeRow_53 rfl (Nat.le_of_ble_eq_true rfl) rfl ?_
      obtain ⟨x4_25, ex4_25, hf⟩ := lt_e hf
      refine go_iinc hC dX12_takeRow_54 3 rfl k1_m1 ex4_25 (Nat.le_of_ble_eq_true rfl) rfl ?_
      refine go_goto hC dX12_takeRow_57 (tgt := 30) (by decide) ?_
      obtain rfl := so_1 hf
      refine go_sub [2, 3, 1, 0] rfl ?_
      exact ih x3_24 x4_25 h_22 _ (lp_c hy) hk
theorem e_X12_takeRow : yX12_takeRow.cls = RX12 ∧ yX12_takeRow.cls ≠ "java/lang/invoke/MethodHandle" ∧ yX12_takeRow.cls ≠ "java/lang/invoke/VarHandle" ∧ (parseMethodDescriptor yX12_takeRow.desc).map (fun d => d.parameters.length) = some 2 := by decide +kernel
set_option maxRecDepth 100000 in
set_option maxHeartbeats 4000000 in
theorem c_X12_takeRow (x1 : Int32) (x2 : Int32) (h : PH) (h2 : PH) (hf : f_X12_takeRow x1 x2 h = some ((), h2)) : Con yX12_takeRow wsX12_takeRow (rm_d 0) l0_B [.ref 43, .int x1, .int x2] h none h2 := by
  have hn12 : ∀ w ∈ wsX120, w ∈ wsX12_takeRow := (fun _ hw => (List.mem_cons_of_mem _ (List.mem_append_right _ hw)))
  refine con_v (cc := cX12_takeRow) (nL := 5) (by decide) rfl (Nat.le_of_ble_eq_true rfl) ?_
  intro C hC hret
  change Go l0_B C 0 0 0 [(0, .ref 43), (1, .int x1), (2, .int x2)] [] h
  unfold f_X12_takeRow at hf
  refine go_iconst hC dX12_takeRow_0 k1_0 ?_
  refine go_istore_n hC dX12_takeRow_1 rfl (Nat.le_of_ble_eq_true rfl) rfl ?_
  obtain ⟨s_9, hl, hf⟩ := bd_e1 hf
  refine go_sub [1, 2, 3, 0] rfl ?_
  refine lw_X12_takeRow_2 hC x1 x2 _ 0 h s_9 hl ?_
  refine go_iload_n hC dX12_takeRow_20 rfl 1 rfl ?_
  refine go_istore_n hC dX12_takeRow_21 rfl (Nat.le_of_ble_eq_true rfl) rfl ?_
  refine go_aload_n hC dX12_takeRow_22 rfl 1 rfl ?_
  refine go_geti hC (j := 19) (idx := 170) (nm := "points") (ds := "I") (b_43 _) rfl rfl hn12 (Nat.le_of_ble_eq_true rfl) rfl rfl (List.mem_cons_of_mem _ (List.mem_append_left _ (List.mem_of_getElem? (i := 1) rfl))) (Or.inl rfl) dX12_takeRow_23 ?_
  refine go_iconst hC dX12_takeRow_26 k1_1 ?_
  refine go_isub hC dX12_takeRow_27 ?_
  obtain ⟨x4_10, ex4_10, hf⟩ := lt_e hf
  refine go_topi ex4_10 ?_
  refine go_istore hC dX12_takeRow_28 (Nat.le_of_ble_eq_true rfl) rfl ?_
  obtain ⟨s_27, hl, hf⟩ := bd_e1 hf
  refine go_sub [2, 4, 1, 0] rfl ?_
  refine lw_X12_takeRow_30 hC x2 _ x1 x4_10 s_9.2 s_27 hl ?_
  obtain ⟨-, rfl⟩ := so_2 hf
  exact hret _ _ dX12_takeRow_60
def lb_X12_loadsOf_4 (x1 : Int32) (h : PH) (x2 : Int32) (x3 : Int32) : Option ((Int32 × Int32) ⊕ (Int32 × Int32)) :=
  if (h.1 43 19) ≤ x3 then (
  some (.inr (x2, x3)))
  else (
  bd_1 (f_X12_hasBit x1 x3 h) fun r_9 =>
  if r_9 = 0 then (
  lt_b (x2 + 0) fun x2_10 =>
  lt_b (x3 + 1) fun x3_11 =>
  some (.inl (x2_10, x3_11)))
  else (
  ga_i x3 8 (
  lt_b (x2 + (h.1 55 x3.toNatClampNeg)) fun x2_13 =>
  lt_b (x3 + 1) fun x3_14 =>
  some (.inl (x2_13, x3_14)))))
def f_X12_loadsOf (x1 : Int32) (h : PH) : Option (Int32) :=
  bd_1 (lp_f (fun s => lb_X12_loadsOf_4 x1 h s.1 s.2) fu_l (0, 0)) fun s_17 =>
  some s_17.1
set_option maxRecDepth 100000 in
set_option maxHeartbeats 4000000 in
theorem lw_X12_loadsOf_4 {C : GC} (hC : Cx C cX12_loadsOf 4 wsX12_loadsOf RX12 (some .int) (rm_d 1)) (x1 : Int32) (h : PH) : ∀ (n9 : Nat) (x2 : Int32) (x3 : Int32) (y : Int32 × Int32), lp_f (fun s => lb_X12_loadsOf_4 x1 h s.1 s.2) n9 (x2, x3) = some y → ∀ (hk : Go l0_B C 0 0 39 [(2, .int y.1)] [] h), Go l0_B C 0 0 4 [(0, .ref 43), (1, .int x1), (2, .int x2), (3, .int x3)] [] h := by
  have hn12 : ∀ w ∈ wsX120, w ∈ wsX12_loadsOf := (fun _ hw => (List.mem_cons_of_mem _ (List.mem_append_right _ hw)))
  intro n9
  induction n9 with
  | zero =>
    intro x2 x3 y hlp
    cases hlp
  | succ n9 ih =>
    intro x2 x3 y hlp hk
    obtain ⟨k9, z, hk9, hf, hy⟩ := lp_e hlp
    cases hk9
    replace hf : lb_X12_loadsOf_4 x1 h x2 x3 = some z := hf
    unfold lb_X12_loadsOf_4 at hf
    refine go_iload_n hC dX12_loadsOf_4 rfl 3 rfl ?_
    refine go_aload_n hC dX12_loadsOf_5 rfl 0 rfl ?_
    refine go_geti hC (j := 19) (idx := 170) (nm := "points") (ds := "I") (b_43 _) rfl rfl hn12 (Nat.le_of_ble_eq_true rfl) rfl rfl (List.mem_cons_of_mem _ (List.mem_append_left _ (List.mem_of_getElem? (i := 0) rfl))) (Or.inl rfl) dX12_loadsOf_6 ?_
    refine go_icmp_ge hC dX12_loadsOf_9 (tgt := 39) (by decide) (fun c_16 => ?_) (fun c_16 => ?_)
    · replace hf := if_t c_16 hf
      obtain rfl := so_1 hf
      obtain rfl := lp_x hy
      refine go_sub [2] rfl ?_
      exact hk
    · replace hf := if_f c_16 hf
      refine go_iload_n hC dX12_loadsOf_12 rfl 2 rfl ?_
      refine go_iload_n hC dX12_loadsOf_13 rfl 1 rfl ?_
      refine go_iload_n hC dX12_loadsOf_14 rfl 3 rfl ?_
      obtain ⟨r_9, hc, hf⟩ := bd_e1 hf
      refine go_callS hC (c_X12_hasBit x1 x3 h r_9 hc) gX12_loadsOf_X12_hasBit rfl ⟨rfl, rfl⟩ 2 e_X12_hasBit ⟨Nat.le_of_ble_eq_true rfl, Nat.le_of_ble_eq_true rfl⟩ rfl (st := [.int x2]) (st1 := [.int r_9, .int x2]) rfl rfl (Nat.le_of_ble_eq_true rfl) ⟨Nat.zero_le _, Nat.zero_le _⟩ dX12_loadsOf_15 ?_
      refine go_if_eq hC dX12_loadsOf_18 (tgt := 30) (by decide) (fun c_15 => ?_) (fun c_15 => ?_)
      · replace hf := if_t c_15 hf
        refine go_iconst hC dX12_loadsOf_30 k1_0 ?_
        refine go_iadd hC dX12_loadsOf_31 ?_
        obtain ⟨x2_10, ex2_10, hf⟩ := lt_e hf
        refine go_topi ex2_10 ?_
        refine go_istore_n hC dX12_loadsOf_32 rfl (Nat.le_of_ble_eq_true rfl) rfl ?_
        obtain ⟨x3_11, ex3_11, hf⟩ := lt_e hf
        refine go_iinc hC dX12_loadsOf_33 3 rfl k1_1 ex3_11 (Nat.le_of_ble_eq_true rfl) rfl ?_
        refine go_goto hC dX12_loadsOf_36 (tgt := 4) (by decide) ?_
        obtain rfl := so_1 hf
        refine go_sub [2, 3, 1, 0] rfl ?_
        exact ih x2_10 x3_11 _ (lp_c hy) hk
      · replace hf := if_f c_15 hf
        refine go_aload_n hC dX12_loadsOf_21 rfl 0 rfl ?_
        refine go_getr hC (j := 21) (idx := 44) (nm := "loadOf") (ds := "[I") (b_43 _) rfl rfl hn12 (Nat.le_of_ble_eq_true rfl) rfl rfl (List.mem_cons_of_mem _ (List.mem_append_left _ (List.mem_of_getElem? (i := 1) rfl))) (Or.inl rfl) dX12_loadsOf_22 ?_
        refine go_iload_n hC dX12_loadsOf_25 rfl 3 rfl ?_
        obtain ⟨g_12, hf⟩ := ga_e hf
        refine go_iald hC (b_55 _) g_12 dX12_loadsOf_26 ?_
        refine go_goto hC dX12_loadsOf_27 (tgt := 31) (by decide) ?_
        refine go_iadd hC dX12_loadsOf_31 ?_
        obtain ⟨x2_13, ex2_13, hf⟩ := lt_e hf
        refine go_topi ex2_13 ?_
        refine go_istore_n hC dX12_loadsOf_32 rfl (Nat.le_of_ble_eq_true rfl) rfl ?_
        obtain ⟨x3_14, ex3_14, hf⟩ := lt_e hf
        refine go_iinc hC dX12_loadsOf_33 3 rfl k1_1 ex3_14 (Nat.le_of_ble_eq_true rfl) rfl ?_
        refine go_goto hC dX12_loadsOf_36 (tgt := 4) (by decide) ?_
        obtain rfl := so_1 hf
        refine go_sub [2, 3, 1, 0] rfl ?_
        exact ih x2_13 x3_14 _ (lp_c hy) hk
theorem e_X12_loadsOf : yX12_loadsOf.cls = RX12 ∧ yX12_loadsOf.cls ≠ "java/lang/invoke/MethodHandle" ∧ yX12_loadsOf.cls ≠ "java/lang/invoke/VarHandle" ∧ (parseMethodDescriptor yX12_loadsOf.desc).map (fun d => d.parameters.length) = some 1 := by decide +kernel
set_option maxRecDepth 100000 in
set_option maxHeartbeats 4000000 in
theorem c_X12_loadsOf (x1 : Int32) (h : PH) (r : Int32) (hf : f_X12_loadsOf x1 h = some r) : Con yX12_loadsOf wsX12_loadsOf (rm_d 1) l0_B [.ref 43, .int x1] h (some (.int r)) h := by
  have hn12 : ∀ w ∈ wsX120, w ∈ wsX12_loadsOf := (fun _ hw => (List.mem_cons_of_mem _ (List.mem_append_right _ hw)))
  refine con_i (ty := .int) (cc := cX12_loadsOf) (nL := 4) (by decide) rfl (Nat.le_of_ble_eq_true rfl) ?_
  intro C hC hret
  change Go l0_B C 0 0 0 [(0, .ref 43), (1, .int x1)] [] h
  unfold f_X12_loadsOf at hf
  refine go_iconst hC dX12_loadsOf_0 k1_0 ?_
  refine go_istore_n hC dX12_loadsOf_1 rfl (Nat.le_of_ble_eq_true rfl) rfl ?_
  refine go_iconst hC dX12_loadsOf_2 k1_0 ?_
  refine go_istore_n hC dX12_loadsOf_3 rfl (Nat.le_of_ble_eq_true rfl) rfl ?_
  obtain ⟨s_17, hl, hf⟩ := bd_e1 hf
  refine go_sub [2, 3, 1, 0] rfl ?_
  refine lw_X12_loadsOf_4 hC x1 h _ 0 0 s_17 hl ?_
  refine go_iload_n hC dX12_loadsOf_39 rfl 0 rfl ?_
  obtain rfl := so_1 hf
  exact hret _ _ rfl dX12_loadsOf_40
def lb_X12_isDark_15 (x1 : Int32) (x2 : Int32) (h : PH) (x3 : Int32) (x4 : Int32) : Option ((Int32 × Int32) ⊕ (Int32 × Int32)) :=
  if (h.1 43 19) ≤ x4 then (
  some (.inr (x3, x4)))
  else (
  ga_i x4 8 (
  if (h.1 56 x4.toNatClampNeg) = x2 then (
  lt_b (x3 ||| ((1 : Int32) <<< (x4 &&& 31))) fun x3_11 =>
  lt_b (x4 + 1) fun x4_12 =>
  some (.inl (x3_11, x4_12)))
  else (
  lt_b (x3 ||| 0) fun x3_9 =>
  lt_b (x4 + 1) fun x4_10 =>
  some (.inl (x3_9, x4_10)))))
def lb_X12_isDark_70 (x2 : Int32) (x3 : Int32) (x4 : Int32) (h : PH) (x1 : Int32) (x5 : Int32) : Option ((Int32 × Int32) ⊕ (Int32 × Int32)) :=
  if 3 ≤ x5 then (
  some (.inr (x1, x5)))
  else (
  if x1 = 0 then (
  if x4 = 0 then (
  lt_b (x5 + 1) fun x5_26 =>
  some (.inl (0, x5_26)))
  else (
  ga_i x5 3 (
  if (x3 &&& ((h.1 64 x5.toNatClampNeg) ^^^ (-1))) = 0 then (
  lt_b (x5 + 1) fun x5_29 =>
  some (.inl (1, x5_29)))
  else (
  lt_b (x5 + 1) fun x5_28 =>
  some (.inl (0, x5_28))))))
  else (
  lt_b (x5 + 1) fun x5_25 =>
  some (.inl (1, x5_25))))
def lb_X12_isDark_4 (h : PH) (x1 : Int32) (x2 : Int32) : Option ((Int32 × Int32) ⊕ (Int32 × Int32)) :=
  if 6 ≤ x2 then (
  some (.inr (x1, x2)))
  else (
  bd_1 (lp_f (fun s => lb_X12_isDark_15 x1 x2 h s.1 s.2) fu_l (0, 0)) fun s_40 =>
  if (s_40.1 &&& (s_40.1 - 1)) = 0 then (
  bd_1 (lp_f (fun s => lb_X12_isDark_70 x2 s_40.1 0 h s.1 s.2) fu_l (x1, 0)) fun s_41 =>
  lt_b (x2 + 1) fun x2_42 =>
  some (.inl (s_41.1, x2_42)))
  else (
  bd_1 (lp_f (fun s => lb_X12_isDark_70 x2 s_40.1 1 h s.1 s.2) fu_l (x1, 0)) fun s_43 =>
  lt_b (x2 + 1) fun x2_44 =>
  some (.inl (s_43.1, x2_44))))
def f_X12_isDark (h : PH) : Option (Int32) :=
  bd_1 (lp_f (fun s => lb_X12_isDark_4 h s.1 s.2) fu_l (0, 0)) fun s_47 =>
  gb_i s_47.1 (
  some s_47.1)
set_option maxRecDepth 100000 in
set_option maxHeartbeats 4000000 in
theorem lw_X12_isDark_15 {C : GC} (hC : Cx C cX12_isDark 6 wsX12_isDark RX12 (some .boolean) (rm_d 0)) (x1 : Int32) (x2 : Int32) (h : PH) : ∀ (n9 : Nat) (x3 : Int32) (x4 : Int32) (y : Int32 × Int32), lp_f (fun s => lb_X12_isDark_15 x1 x2 h s.1 s.2) n9 (x3, x4) = some y → ∀ (hk : Go l0_B C 0 0 52 [(0, .ref 43), (1, .int x1), (2, .int x2), (3, .int y.1)] [] h), Go l0_B C 0 0 15 [(0, .ref 43), (1, .int x1), (2, .int x2), (3, .int x3), (4, .int x4)] [] h := by
  have hn12 : ∀ w ∈ wsX120, w ∈ wsX12_isDark := (fun _ hw => (List.mem_cons_of_mem _ (List.mem_append_right _ hw)))
  intro n9
  induction n9 with
  | zero =>
    intro x3 x4 y hlp
    cases hlp
  | succ n9 ih =>
    intro x3 x4 y hlp hk
    obtain ⟨k9, z, hk9, hf, hy⟩ := lp_e hlp
    cases hk9
    replace hf : lb_X12_isDark_15 x1 x2 h x3 x4 = some z := hf
    unfold lb_X12_isDark_15 at hf
    refine go_iload hC dX12_isDark_15 4 rfl ?_
    refine go_aload_n hC dX12_isDark_17 rfl 0 rfl ?_
    refine go_geti hC (j := 19) (idx := 170) (nm := "points") (ds := "I") (b_43 _) rfl rfl hn12 (Nat.le_of_ble_eq_true rfl) rfl rfl (List.mem_cons_of_mem _ (List.mem_append_left _ (List.mem_of_getElem? (i := 0) rfl))) (Or.inl rfl) dX12_isDark_18 ?_
    refine go_icmp_ge hC dX12_isDark_21 (tgt := 52) (by decide) (fun c_14 => ?_) (fun c_14 => ?_)
    · replace hf := if_t c_14 hf
      obtain rfl := so_1 hf
      obtain rfl := lp_x hy
      refine go_sub [0, 1, 2, 3] rfl ?_
      exact hk
    · replace hf := if_f c_14 hf
      refine go_iload_n hC dX12_isDark_24 rfl 3 rfl ?_
      refine go_aload_n hC dX12_isDark_25 rfl 0 rfl ?_
      refine go_getr hC (j := 22) (idx := 47) (nm := "roomOf") (ds := "[I") (b_43 _) rfl rfl hn12 (Nat.le_of_ble_eq_true rfl) rfl rfl (List.mem_cons_of_mem _ (List.mem_append_left _ (List.mem_of_getElem? (i := 1) rfl))) (Or.inl rfl) dX12_isDark_26 ?_
      refine go_iload hC dX12_isDark_29 4 rfl ?_
      obtain ⟨g_8, hf⟩ := ga_e hf
      refine go_iald hC (b_56 _) g_8 dX12_isDark_31 ?_
      refine go_iload_n hC dX12_isDark_32 rfl 2 rfl ?_
      refine go_icmp_ne hC dX12_isDark_33 (tgt := 43) (by decide) (fun c_13 => ?_) (fun c_13 => ?_)
      · replace hf := if_f c_13 hf
        refine go_iconst hC dX12_isDark_43 k1_0 ?_
        refine go_ior hC dX12_isDark_44 ?_
        obtain ⟨x3_9, ex3_9, hf⟩ := lt_e hf
        refine go_topi ex3_9 ?_
        refine go_istore_n hC dX12_isDark_45 rfl (Nat.le_of_ble_eq_true rfl) rfl ?_
        obtain ⟨x4_10, ex4_10, hf⟩ := lt_e hf
        refine go_iinc hC dX12_isDark_46 4 rfl k1_1 ex4_10 (Nat.le_of_ble_eq_true rfl) rfl ?_
        refine go_goto hC dX12_isDark_49 (tgt := 15) (by decide) ?_
        obtain rfl := so_1 hf
        refine go_sub [2, 3, 4, 1, 0] rfl ?_
        exact ih x3_9 x4_10 _ (lp_c hy) hk
      · replace hf := if_t c_13 hf
        refine go_iconst hC dX12_isDark_36 k1_1 ?_
        refine go_iload hC dX12_isDark_37 4 rfl ?_
        refine go_ishl hC dX12_isDark_39 ?_
        refine go_goto hC dX12_isDark_40 (tgt := 44) (by decide) ?_
        refine go_ior hC dX12_isDark_44 ?_
        obtain ⟨x3_11, ex3_11, hf⟩ := lt_e hf
        refine go_topi ex3_11 ?_
        refine go_istore_n hC dX12_isDark_45 rfl (Nat.le_of_ble_eq_true rfl) rfl ?_
        obtain ⟨x4_12, ex4_12, hf⟩ := lt_e hf
        refine go_iinc hC dX12_isDark_46 4 rfl k1_1 ex4_12 (Nat.le_of_ble_eq_true rfl) rfl ?_
        refine go_goto hC dX12_isDark_49 (tgt := 15) (by decide) ?_
        obtain rfl := so_1 hf
        refine go_sub [2, 3, 4, 1, 0] rfl ?_
        exact ih x3_11 x4_12 _ (lp_c hy) hk
set_option maxRecDepth 100000 in
set_option maxHeartbeats 4000000 in
theorem lw_X12_isDark_70 {C : GC} (hC : Cx C cX12_isDark 6 wsX12_isDark RX12 (some .boolean) (rm_d 0)) (x2 : Int32) (x3 : Int32) (x4 : Int32) (h : PH) : ∀ (n9 : Nat) (x1 : Int32) (x5 : Int32) (y : Int32 × Int32), lp_f (fun s => lb_X12_isDark_70 x2 x3 x4 h s.1 s.2) n9 (x1, x5) = some y → ∀ (hk : Go l0_B C 0 0 111 [(0, .ref 43), (1, .int y.1), (2, .int x2)] [] h), Go l0_B C 0 0 70 [(0, .ref 43), (1, .int x1), (2, .int x2), (3, .int x3), (4, .int x4), (5, .int x5)] [] h := by
  have hn12 : ∀ w ∈ wsX120, w ∈ wsX12_isDark := (fun _ hw => (List.mem_cons_of_mem _ (List.mem_append_right _ hw)))
  intro n9
  induction n9 with
  | zero =>
    intro x1 x5 y hlp
    cases hlp
  | succ n9 ih =>
    intro x1 x5 y hlp hk
    obtain ⟨k9, z, hk9, hf, hy⟩ := lp_e hlp
    cases hk9
    replace hf : lb_X12_isDark_70 x2 x3 x4 h x1 x5 = some z := hf
    unfold lb_X12_isDark_70 at hf
    refine go_iload hC dX12_isDark_70 5 rfl ?_
    refine go_iconst hC dX12_isDark_72 k1_3 ?_
    refine go_icmp_ge hC dX12_isDark_73 (tgt := 111) (by decide) (fun c_33 => ?_) (fun c_33 => ?_)
    · replace hf := if_t c_33 hf
      obtain rfl := so_1 hf
      obtain rfl := lp_x hy
      refine go_sub [0, 1, 2] rfl ?_
      exact hk
    · replace hf := if_f c_33 hf
      refine go_iload_n hC dX12_isDark_76 rfl 1 rfl ?_
      refine go_if_ne hC dX12_isDark_77 (tgt := 99) (by decide) (fun c_32 => ?_) (fun c_32 => ?_)
      · replace hf := if_f c_32 hf
        refine go_iconst hC dX12_isDark_99 k1_1 ?_
        refine go_goto hC dX12_isDark_100 (tgt := 104) (by decide) ?_
        refine go_istore_n hC dX12_isDark_104 rfl (Nat.le_of_ble_eq_true rfl) rfl ?_
        obtain ⟨x5_25, ex5_25, hf⟩ := lt_e hf
        refine go_iinc hC dX12_isDark_105 5 rfl k1_1 ex5_25 (Nat.le_of_ble_eq_true rfl) rfl ?_
        refine go_goto hC dX12_isDark_108 (tgt := 70) (by decide) ?_
        obtain rfl := so_1 hf
        refine go_sub [2, 1, 3, 4, 5, 0] rfl ?_
        exact ih 1 x5_25 _ (lp_c hy) hk
      · replace hf := if_t c_32 hf
        refine go_iload hC dX12_isDark_80 4 rfl ?_
        refine go_if_eq hC dX12_isDark_82 (tgt := 103) (by decide) (fun c_31 => ?_) (fun c_31 => ?_)
        · replace hf := if_t c_31 hf
          refine go_iconst hC dX12_isDark_103 k1_0 ?_
          refine go_istore_n hC dX12_isDark_104 rfl (Nat.le_of_ble_eq_true rfl) rfl ?_
          obtain ⟨x5_26, ex5_26, hf⟩ := lt_e hf
          refine go_iinc hC dX12_isDark_105 5 rfl k1_1 ex5_26 (Nat.le_of_ble_eq_true rfl) rfl ?_
          refine go_goto hC dX12_isDark_108 (tgt := 70) (by decide) ?_
          obtain rfl := so_1 hf
          refine go_sub [2, 1, 3, 4, 5, 0] rfl ?_
          exact ih 0 x5_26 _ (lp_c hy) hk
        · replace hf := if_f c_31 hf
          refine go_iload_n hC dX12_isDark_85 rfl 3 rfl ?_
          refine go_aload_n hC dX12_isDark_86 rfl 0 rfl ?_
          refine go_getr hC (j := 32) (idx := 72) (nm := "setOn") (ds := "[I") (b_43 _) rfl rfl hn12 (Nat.le_of_ble_eq_true rfl) rfl rfl (List.mem_cons_of_mem _ (List.mem_append_left _ (List.mem_of_getElem? (i := 2) rfl))) (Or.inl rfl) dX12_isDark_87 ?_
          refine go_iload hC dX12_isDark_90 5 rfl ?_
          obtain ⟨g_27, hf⟩ := ga_e hf
          refine go_iald hC (b_64 _) g_27 dX12_isDark_92 ?_
          refine go_iconst hC dX12_isDark_93 k1_m1 ?_
          refine go_ixor hC dX12_isDark_94 ?_
          refine go_iand hC dX12_isDark_95 ?_
          refine go_if_ne hC dX12_isDark_96 (tgt := 103) (by decide) (fun c_30 => ?_) (fun c_30 => ?_)
          · replace hf := if_f c_30 hf
            refine go_iconst hC dX12_isDark_103 k1_0 ?_
            refine go_istore_n hC dX12_isDark_104 rfl (Nat.le_of_ble_eq_true rfl) rfl ?_
            obtain ⟨x5_28, ex5_28, hf⟩ := lt_e hf
            refine go_iinc hC dX12_isDark_105 5 rfl k1_1 ex5_28 (Nat.le_of_ble_eq_true rfl) rfl ?_
            refine go_goto hC dX12_isDark_108 (tgt := 70) (by decide) ?_
            obtain rfl := so_1 hf
            refine go_sub [2, 1, 3, 4, 5, 0] rfl ?_
            exact ih 0 x5_28 _ (lp_c hy) hk
          · replace hf := if_t c_30 hf
            refine go_iconst hC dX12_isDark_99 k1_1 ?_
            refine go_goto hC dX12_isDark_100 (tgt := 104) (by decide) ?_
            refine go_istore_n hC dX12_isDark_104 rfl (Nat.le_of_ble_eq_true rfl) rfl ?_
            obtain ⟨x5_29, ex5_29, hf⟩ := lt_e hf
            refine go_iinc hC dX12_isDark_105 5 rfl k1_1 ex5_29 (Nat.le_of_ble_eq_true rfl) rfl ?_
            refine go_goto hC dX12_isDark_108 (tgt := 70) (by decide) ?_
            obtain rfl := so_1 hf
            refine go_sub [2, 1, 3, 4, 5, 0] rfl ?_
            exact ih 1 x5_29 _ (lp_c hy) hk
set_option maxRecDepth 100000 in
set_option maxHeartbeats 4000000 in
theorem lw_X12_isDark_4 {C : GC} (hC : Cx C cX12_isDark 6 wsX12_isDark RX12 (some .boolean) (rm_d 0)) (h : PH) : ∀ (n9 : Nat) (x1 : Int32) (x2 : Int32) (y : Int32 × Int32), lp_f (fun s => lb_X12_isDark_4 h s.1 s.2) n9 (x1, x2) = some y → ∀ (hk : Go l0_B C 0 0 117 [(1, .int y.1)] [] h), Go l0_B C 0 0 4 [(0, .ref 43), (1, .int x1), (2, .int x2)] [] h := by
  have hn12 : ∀ w ∈ wsX120, w ∈ wsX12_isDark := (fun _ hw => (List.mem_cons_of_mem _ (List.mem_append_right _ hw)))
  intro n9
  induction n9 with
  | zero =>
    intro x1 x2 y hlp
    cases hlp
  | succ n9 ih =>
    intro x1 x2 y hlp hk
    obtain ⟨k9, z, hk9, hf, hy⟩ := lp_e hlp
    cases hk9
    replace hf : lb_X12_isDark_4 h x1 x2 = some z := hf
    unfold lb_X12_isDark_4 at hf
    refine go_iload_n hC dX12_isDark_4 rfl 2 rfl ?_
    refine go_bipush hC dX12_isDark_5 k8_6 ?_
    refine go_icmp_ge hC dX12_isDark_7 (tgt := 117) (by decide) (fun c_46 => ?_) (fun c_46 => ?_)
    · replace hf := if_t c_46 hf
      obtain rfl := so_1 hf
      obtain rfl := lp_x hy
      refine go_sub [1] rfl ?_
      exact hk
    · replace hf := if_f c_46 hf
      refine go_iconst hC dX12_isDark_10 k1_0 ?_
      refine go_istore_n hC dX12_isDark_11 rfl (Nat.le_of_ble_eq_true rfl) rfl ?_
      refine go_iconst hC dX12_isDark_12 k1_0 ?_
      refine go_istore hC dX12_isDark_13 (Nat.le_of_ble_eq_true rfl) rfl ?_
      obtain ⟨s_40, hl, hf⟩ := bd_e1 hf
      refine go_sub [2, 3, 4, 1, 0] rfl ?_
      refine lw_X12_isDark_15 hC x1 x2 h _ 0 0 s_40 hl ?_
      refine go_iload_n hC dX12_isDark_52 rfl 3 rfl ?_
      refine go_iload_n hC dX12_isDark_53 rfl 3 rfl ?_
      refine go_iconst hC dX12_isDark_54 k1_1 ?_
      refine go_isub hC dX12_isDark_55 ?_
      refine go_iand hC dX12_isDark_56 ?_
      refine go_if_eq hC dX12_isDark_57 (tgt := 64) (by decide) (fun c_45 => ?_) (fun c_45 => ?_)
      · replace hf := if_t c_45 hf
        refine go_iconst hC dX12_isDark_64 k1_0 ?_
        refine go_istore hC dX12_isDark_65 (Nat.le_of_ble_eq_true rfl) rfl ?_
        refine go_iconst hC dX12_isDark_67 k1_0 ?_
        refine go_istore hC dX12_isDark_68 (Nat.le_of_ble_eq_true rfl) rfl ?_
        obtain ⟨s_41, hl, hf⟩ := bd_e1 hf
        refine go_sub [2, 3, 4, 5, 1, 0] rfl ?_
        refine lw_X12_isDark_70 hC x2 s_40.1 0 h _ x1 0 s_41 hl ?_
        obtain ⟨x2_42, ex2_42, hf⟩ := lt_e hf
        refine go_iinc hC dX12_isDark_111 2 rfl k1_1 ex2_42 (Nat.le_of_ble_eq_true rfl) rfl ?_
        refine go_goto hC dX12_isDark_114 (tgt := 4) (by decide) ?_
        obtain rfl := so_1 hf
        refine go_sub [1, 2, 0] rfl ?_
        exact ih s_41.1 x2_42 _ (lp_c hy) hk
      · replace hf := if_f c_45 hf
        refine go_iconst hC dX12_isDark_60 k1_1 ?_
        refine go_goto hC dX12_isDark_61 (tgt := 65) (by decide) ?_
        refine go_istore hC dX12_isDark_65 (Nat.le_of_ble_eq_true rfl) rfl ?_
        refine go_iconst hC dX12_isDark_67 k1_0 ?_
        refine go_istore hC dX12_isDark_68 (Nat.le_of_ble_eq_true rfl) rfl ?_
        obtain ⟨s_43, hl, hf⟩ := bd_e1 hf
        refine go_sub [2, 3, 4, 5, 1, 0] rfl ?_
        refine lw_X12_isDark_70 hC x2 s_40.1 1 h _ x1 0 s_43 hl ?_
        obtain ⟨x2_44, ex2_44, hf⟩ := lt_e hf
        refine go_iinc hC dX12_isDark_111 2 rfl k1_1 ex2_44 (Nat.le_of_ble_eq_true rfl) rfl ?_
        refine go_goto hC dX12_isDark_114 (tgt := 4) (by decide) ?_
        obtain rfl := so_1 hf
        refine go_sub [1, 2, 0] rfl ?_
        exact ih s_43.1 x2_44 _ (lp_c hy) hk
theorem e_X12_isDark : yX12_isDark.cls = RX12 ∧ yX12_isDark.cls ≠ "java/lang/invoke/MethodHandle" ∧ yX12_isDark.cls ≠ "java/lang/invoke/VarHandle" ∧ (parseMethodDescriptor yX12_isDark.desc).map (fun d => d.parameters.length) = some 0 := by decide +kernel
set_option maxRecDepth 100000 in
set_option maxHeartbeats 4000000 in
theorem c_X12_isDark (h : PH) (r : Int32) (hf : f_X12_isDark h = some r) : Con yX12_isDark wsX12_isDark (rm_d 0) l0_B [.ref 43] h (some (.int r)) h := by
  have hn12 : ∀ w ∈ wsX120, w ∈ wsX12_isDark := (fun _ hw => (List.mem_cons_of_mem _ (List.mem_append_right _ hw)))
  refine con_i (ty := .boolean) (cc := cX12_isDark) (nL := 6) (by decide) rfl (Nat.le_of_ble_eq_true rfl) ?_
  intro C hC hret
  change Go l0_B C 0 0 0 [(0, .ref 43)] [] h
  unfold f_X12_isDark at hf
  refine go_iconst hC dX12_isDark_0 k1_0 ?_
  refine go_istore_n hC dX12_isDark_1 rfl (Nat.le_of_ble_eq_true rfl) rfl ?_
  refine go_iconst hC dX12_isDark_2 k1_0 ?_
  refine go_istore_n hC dX12_isDark_3 rfl (Nat.le_of_ble_eq_true rfl) rfl ?_
  obtain ⟨s_47, hl, hf⟩ := bd_e1 hf
  refine go_sub [2, 1, 0] rfl ?_
  refine lw_X12_isDark_4 hC h _ 0 0 s_47 hl ?_
  refine go_iload_n hC dX12_isDark_117 rfl 0 rfl ?_
  obtain ⟨g_48, hf⟩ := gb_e hf
  obtain rfl := so_1 hf
  exact hret _ _ (zo_n g_48) dX12_isDark_118
def lb_X12_cableTogether_4 (x1 : Int32) (h : PH) (x2 : Int32) (x3 : Int32) : Option ((Int32 × Int32) ⊕ ((Int32) ⊕ (Int32 × Int32))) :=
  if 3 ≤ x3 then (
  some (.inr (.inr (x2, x3))))
  else (
  ga_i x3 3 (
  if (h.1 64 x3.toNatClampNeg) = 0 then (
  lt_b (x2 + 0) fun x2_24 =>
  ga_i x3 3 (
  bd_1 (f_X12_loadsOf (h.1 64 x3.toNatClampNeg) h) fun r_26 =>
  if r_26 ≤ x1 then (
  lt_b (x3 + 1) fun x3_27 =>
  some (.inl (x2_24, x3_27)))
  else (
  some (.inr (.inl 10000000)))))
  else (
  ga_i x3 3 (
  ga_i ((9 * (h.1 64 x3.toNatClampNeg)) + 8) 2304 (
  lt_b (x2 + (h.1 63 ((9 * (h.1 64 x3.toNatClampNeg)) + 8).toNatClampNeg)) fun x2_19 =>
  ga_i x3 3 (
  bd_1 (f_X12_loadsOf (h.1 64 x3.toNatClampNeg) h) fun r_21 =>
  if r_21 ≤ x1 then (
  lt_b (x3 + 1) fun x3_22 =>
  some (.inl (x2_19, x3_22)))
  else (
  some (.inr (.inl 10000000)))))))))
def f_X12_cableTogether (x1 : Int32) (h : PH) : Option (Int32) :=
  bd_1 (lp_f (fun s => lb_X12_cableTogether_4 x1 h s.1 s.2) fu_l (0, 0)) fun s_31 => sw_b s_31 (fun r_33 => some r_33) fun e_32 =>
  some e_32.1
set_option maxRecDepth 100000 in
set_option maxHeartbeats 4000000 in
theorem lw_X12_cableTogether_4 {C : GC} (hC : Cx C cX12_cableTogether 4 wsX12_cableTogether RX12 (some .int) (rm_d 2)) (x1 : Int32) (h : PH) : ∀ (n9 : Nat) (x2 : Int32) (x3 : Int32) (y : (Int32) ⊕ (Int32 × Int32)), lp_f (fun s => lb_X12_cableTogether_4 x1 h s.1 s.2) n9 (x2, x3) = some y → ∀ (hk : match y with | .inl r => (∀ (pc : Nat) (L : List (Nat × Value)), narrow .int (.int r) = .int r → decode cX12_cableTogether pc = .ok (.ireturn, 1) → Go l0_B C 0 0 pc L [.int r] h) | .inr e => Go l0_B C 0 0 65 [(2, .int e.1)] [] h), Go l0_B C 0 0 4 [(0, .ref 43), (1, .int x1), (2, .int x2), (3, .int x3)] [] h := by
  have hn12 : ∀ w ∈ wsX120, w ∈ wsX12_cableTogether := (fun _ hw => (List.mem_cons_of_mem _ (List.mem_append_right _ hw)))
  intro n9
  induction n9 with
  | zero =>
    intro x2 x3 y hlp
    cases hlp
  | succ n9 ih =>
    intro x2 x3 y hlp hk
    obtain ⟨k9, z, hk9, hf, hy⟩ := lp_e hlp
    cases hk9
    replace hf : lb_X12_cableTogether_4 x1 h x2 x3 = some z := hf
    unfold lb_X12_cableTogether_4 at hf
    refine go_iload_n hC dX12_cableTogether_4 rfl 3 rfl ?_
    refine go_iconst hC dX12_cableTogether_5 k1_3 ?_
    refine go_icmp_ge hC dX12_cableTogether_6 (tgt := 65) (by decide) (fun c_30 => ?_) (fun c_30 => ?_)
    · replace hf := if_t c_30 hf
      obtain rfl := so_1 hf
      obtain rfl := lp_x hy
      refine go_sub [2] rfl ?_
      exact hk
    · replace hf := if_f c_30 hf
      refine go_iload_n hC dX12_cableTogether_9 rfl 2 rfl ?_
      refine go_aload_n hC dX12_cableTogether_10 rfl 0 rfl ?_
      refine go_getr hC (j := 32) (idx := 72) (nm := "setOn") (ds := "[I") (b_43 _) rfl rfl hn12 (Nat.le_of_ble_eq_true rfl) rfl rfl (List.mem_cons_of_mem _ (List.mem_append_left _ (List.mem_of_getElem? (i := 0) rfl))) (Or.inl rfl) dX12_cableTogether_11 ?_
      refine go_iload_n hC dX12_cableTogether_14 rfl 3 rfl ?_
      obtain ⟨g_16, hf⟩ := ga_e hf
      refine go_iald hC (b_64 _) g_16 dX12_cableTogether_15 ?_
      refine go_if_ne hC dX12_cableTogether_16 (tgt := 23) (by decide) (fun c_29 => ?_) (fun c_29 => ?_)
      · replace hf := if_f c_29 hf
        refine go_aload_n hC dX12_cableTogether_23 rfl 0 rfl ?_
        refine go_getr hC (j := 31) (idx := 69) (nm := "needFrom") (ds := "[I") (b_43 _) rfl rfl hn12 (Nat.le_of_ble_eq_true rfl) rfl rfl (List.mem_cons_of_mem _ (List.mem_append_left _ (List.mem_of_getElem? (i := 1) rfl))) (Or.inl rfl) dX12_cableTogether_24 ?_
        refine go_bipush hC dX12_cableTogether_27 k8_9 ?_
        refine go_aload_n hC dX12_cableTogether_29 rfl 0 rfl ?_
        refine go_getr hC (j := 32) (idx := 72) (nm := "setOn") (ds := "[I") (b_43 _) rfl rfl hn12 (Nat.le_of_ble_eq_true rfl) rfl rfl (List.mem_cons_of_mem _ (List.mem_append_left _ (List.mem_of_getElem? (i := 0) rfl))) (Or.inl rfl) dX12_cableTogether_30 ?_
        refine go_iload_n hC dX12_cableTogether_33 rfl 3 rfl ?_
        obtain ⟨g_17, hf⟩ := ga_e hf
        refine go_iald hC (b_64 _) g_17 dX12_cableTogether_34 ?_
        refine go_imul hC dX12_cableTogether_35 ?_
        refine go_bipush hC dX12_cableTogether_36 k8_8 ?_
        refine go_iadd hC dX12_cableTogether_38 ?_
        obtain ⟨g_18, hf⟩ := ga_e hf
        refine go_iald hC (b_63 _) g_18 dX12_cableTogether_39 ?_
        refine go_iadd hC dX12_cableTogether_40 ?_
        obtain ⟨x2_19, ex2_19, hf⟩ := lt_e hf
        refine go_topi ex2_19 ?_
        refine go_istore_n hC dX12_cableTogether_41 rfl (Nat.le_of_ble_eq_true rfl) rfl ?_
        refine go_aload_n hC dX12_cableTogether_42 rfl 1 rfl ?_
        refine go_aload_n hC dX12_cableTogether_43 rfl 1 rfl ?_
        refine go_getr hC (j := 32) (idx := 72) (nm := "setOn") (ds := "[I") (b_43 _) rfl rfl hn12 (Nat.le_of_ble_eq_true rfl) rfl rfl (List.mem_cons_of_mem _ (List.mem_append_left _ (List.mem_of_getElem? (i := 0) rfl))) (Or.inl rfl) dX12_cableTogether_44 ?_
        refine go_iload_n hC dX12_cableTogether_47 rfl 3 rfl ?_
        obtain ⟨g_20, hf⟩ := ga_e hf
        refine go_iald hC (b_64 _) g_20 dX12_cableTogether_48 ?_
        obtain ⟨r_21, hc, hf⟩ := bd_e1 hf
        refine go_callV hC (c_X12_loadsOf (h.1 64 x3.toNatClampNeg) h r_21 hc) gX12_cableTogether_X12_loadsOf rfl ⟨rfl, rfl⟩ 1 e_X12_loadsOf ⟨Nat.le_of_ble_eq_true rfl, Nat.le_of_ble_eq_true rfl⟩ (b_43 _) rfl rfl (st := []) (st1 := [.int r_21]) rfl rfl (Nat.le_of_ble_eq_true rfl) ⟨Nat.zero_le _, Nat.zero_le _⟩ dX12_cableTogether_49 ?_
        refine go_iload_n hC dX12_cableTogether_52 rfl 2 rfl ?_
        refine go_icmp_le hC dX12_cableTogether_53 (tgt := 59) (by decide) (fun c_23 => ?_) (fun c_23 => ?_)
        · replace hf := if_t c_23 hf
          obtain ⟨x3_22, ex3_22, hf⟩ := lt_e hf
          refine go_iinc hC dX12_cableTogether_59 3 rfl k1_1 ex3_22 (Nat.le_of_ble_eq_true rfl) rfl ?_
          refine go_goto hC dX12_cableTogether_62 (tgt := 4) (by decide) ?_
          obtain rfl := so_1 hf
          refine go_sub [2, 3, 1, 0] rfl ?_
          exact ih x2_19 x3_22 _ (lp_c hy) hk
        · replace hf := if_f c_23 hf
          refine go_ldc hC (v := 10000000) (List.mem_cons_of_mem _ (List.mem_append_left _ (List.mem_of_getElem? (i := 2) rfl))) dX12_cableTogether_56 ?_
          obtain rfl := so_1 hf
          obtain rfl := lp_x hy
          exact hk _ _ rfl dX12_cableTogether_58
      · replace hf := if_t c_29 hf
        refine go_iconst hC dX12_cableTogether_19 k1_0 ?_
        refine go_goto hC dX12_cableTogether_20 (tgt := 40) (by decide) ?_
        refine go_iadd hC dX12_cableTogether_40 ?_
        obtain ⟨x2_24, ex2_24, hf⟩ := lt_e hf
        refine go_topi ex2_24 ?_
        refine go_istore_n hC dX12_cableTogether_41 rfl (Nat.le_of_ble_eq_true rfl) rfl ?_
        refine go_aload_n hC dX12_cableTogether_42 rfl 1 rfl ?_
        refine go_aload_n hC dX12_cableTogether_43 rfl 1 rfl ?_
        refine go_getr hC (j := 32) (idx := 72) (nm := "setOn") (ds := "[I") (b_43 _) rfl rfl hn12 (Nat.le_of_ble_eq_true rfl) rfl rfl (List.mem_cons_of_mem _ (List.mem_append_left _ (List.mem_of_getElem? (i := 0) rfl))) (Or.inl rfl) dX12_cableTogether_44 ?_
        refine go_iload_n hC dX12_cableTogether_47 rfl 3 rfl ?_
        obtain ⟨g_25, hf⟩ := ga_e hf
        refine go_iald hC (b_64 _) g_25 dX12_cableTogether_48 ?_
        obtain ⟨r_26, hc, hf⟩ := bd_e1 hf
        refine go_callV hC (c_X12_loadsOf (h.1 64 x3.toNatClampNeg) h r_26 hc) gX12_cableTogether_X12_loadsOf rfl ⟨rfl, rfl⟩ 1 e_X12_loadsOf ⟨Nat.le_of_ble_eq_true rfl, Nat.le_of_ble_eq_true rfl⟩ (b_43 _) rfl rfl (st := []) (st1 := [.int r_26]) rfl rfl (Nat.le_of_ble_eq_true rfl) ⟨Nat.zero_le _, Nat.zero_le _⟩ dX12_cableTogether_49 ?_
        refine go_iload_n hC dX12_cableTogether_52 rfl 2 rfl ?_
        refine go_icmp_le hC dX12_cableTogether_53 (tgt := 59) (by decide) (fun c_28 => ?_) (fun c_28 => ?_)
        · replace hf := if_t c_28 hf
          obtain ⟨x3_27, ex3_27, hf⟩ := lt_e hf
          refine go_iinc hC dX12_cableTogether_59 3 rfl k1_1 ex3_27 (Nat.le_of_ble_eq_true rfl) rfl ?_
          refine go_goto hC dX12_cableTogether_62 (tgt := 4) (by decide) ?_
          obtain rfl := so_1 hf
          refine go_sub [2, 3, 1, 0] rfl ?_
          exact ih x2_24 x3_27 _ (lp_c hy) hk
        · replace hf := if_f c_28 hf
          refine go_ldc hC (v := 10000000) (List.mem_cons_of_mem _ (List.mem_append_left _ (List.mem_of_getElem? (i := 2) rfl))) dX12_cableTogether_56 ?_
          obtain rfl := so_1 hf
          obtain rfl := lp_x hy
          exact hk _ _ rfl dX12_cableTogether_58
theorem e_X12_cableTogether : yX12_cableTogether.cls = RX12 ∧ yX12_cableTogether.cls ≠ "java/lang/invoke/MethodHandle" ∧ yX12_cableTogether.cls ≠ "java/lang/invoke/VarHandle" ∧ (parseMethodDescriptor yX12_cableTogether.desc).map (fun d => d.parameters.length) = some 1 := by decide +kernel
set_option maxRecDepth 100000 in
set_option maxHeartbeats 4000000 in
theorem c_X12_cableTogether (x1 : Int32) (h : PH) (r : Int32) (hf : f_X12_cableTogether x1 h = some r) : Con yX12_cableTogether wsX12_cableTogether (rm_d 2) l0_B [.ref 43, .int x1] h (some (.int r)) h := by
  have hn12 : ∀ w ∈ wsX120, w ∈ wsX12_cableTogether := (fun _ hw => (List.mem_cons_of_mem _ (List.mem_append_right _ hw)))
  refine con_i (ty := .int) (cc := cX12_cableTogether) (nL := 4) (by decide) rfl (Nat.le_of_ble_eq_true rfl) ?_
  intro C hC hret
  change Go l0_B C 0 0 0 [(0, .ref 43), (1, .int x1)] [] h
  unfold f_X12_cableTogether at hf
  refine go_iconst hC dX12_cableTogether_0 k1_0 ?_
  refine go_istore_n hC dX12_cableTogether_1 rfl (Nat.le_of_ble_eq_true rfl) rfl ?_
  refine go_iconst hC dX12_cableTogether_2 k1_0 ?_
  refine go_istore_n hC dX12_cableTogether_3 rfl (Nat.le_of_ble_eq_true rfl) rfl ?_
  obtain ⟨s_31, hl, hf⟩ := bd_e1 hf
  refine go_sub [2, 3, 1, 0] rfl ?_
  refine lw_X12_cableTogether_4 hC x1 h _ 0 0 s_31 hl ?_
  rcases s_31 with r_33 | e_32
  · replace hf : some r_33 = some _ := hf
    cases hf
    exact hret
  · replace hf := sw_r hf
    refine go_iload_n hC dX12_cableTogether_65 rfl 0 rfl ?_
    obtain rfl := so_1 hf
    exact hret _ _ rfl dX12_cableTogether_66
def lb_X12_layPlan_23 (x1 : Int32) (x2 : Int32) (x3 : Int32) (h : PH) (x4 : Int32) (x5 : Int32) : Option ((Int32 × Int32) ⊕ (Int32 × Int32)) :=
  if (h.1 43 19) ≤ x5 then (
  some (.inr (x4, x5)))
  else (
  lt_b (x4 * x1) fun x4_8 =>
  lt_b (x5 + 1) fun x5_9 =>
  some (.inl (x4_8, x5_9)))
def lb_X12_layPlan_47 (x1 : Int32) (x2 : Int32) (x3 : Int32) (x4 : Int32) (x5 : Int32) (h : PH) : Option ((Int32 × PH) ⊕ (Int32 × PH)) :=
  if x4 ≤ x5 then (
  some (.inr (x5, h)))
  else (
  bd_2 (f_X12_takeRow x5 x1 h) fun r_28 h_29 =>
  bd_1 (f_X12_cableTogether x2 h_29) fun r_30 =>
  if (h_29.1 43 34) ≤ r_30 then (
  lt_b (x5 + 1) fun x5_31 =>
  some (.inl (x5_31, h_29)))
  else (
  if x3 = 0 then (
  lt_b (ph_i h_29 43 33 x5) fun h_32 =>
  lt_b (ph_i h_32 43 34 r_30) fun h_33 =>
  lt_b (x5 + 1) fun x5_34 =>
  some (.inl (x5_34, h_33)))
  else (
  bd_1 (f_X12_isDark h_29) fun r_35 =>
  if r_35 = 0 then (
  lt_b (ph_i h_29 43 33 x5) fun h_37 =>
  lt_b (ph_i h_37 43 34 r_30) fun h_38 =>
  lt_b (x5 + 1) fun x5_39 =>
  some (.inl (x5_39, h_38)))
  else (
  lt_b (x5 + 1) fun x5_36 =>
  some (.inl (x5_36, h_29))))))
def f_X12_layPlan (x1 : Int32) (x2 : Int32) (x3 : Int32) (h : PH) : Option (Unit × PH) :=
  bd_2 (f_X12_layNeeds 0 h) fun r_1 h_2 =>
  lt_b (ph_i h_2 43 33 (-9)) fun h_3 =>
  lt_b (ph_i h_3 43 34 10000000) fun h_4 =>
  bd_1 (lp_f (fun s => lb_X12_layPlan_23 x1 x2 x3 h_4 s.1 s.2) fu_l (1, 0)) fun s_11 =>
  bd_1 (lp_f (fun s => lb_X12_layPlan_47 x1 x2 x3 s_11.1 s.1 s.2) fu_l (0, h_4)) fun s_44 =>
  some ((), s_44.2)
set_option maxRecDepth 100000 in
set_option maxHeartbeats 4000000 in
theorem lw_X12_layPlan_23 {C : GC} (hC : Cx C cX12_layPlan 7 wsX12_layPlan RX12 none (rm_d 3)) (x1 : Int32) (x2 : Int32) (x3 : Int32) (h : PH) : ∀ (n9 : Nat) (x4 : Int32) (x5 : Int32) (y : Int32 × Int32), lp_f (fun s => lb_X12_layPlan_23 x1 x2 x3 h s.1 s.2) n9 (x4, x5) = some y → ∀ (hk : Go l0_B C 0 0 44 [(0, .ref 43), (1, .int x1), (2, .int x2), (3, .int x3), (4, .int y.1)] [] h), Go l0_B C 0 0 23 [(0, .ref 43), (1, .int x1), (2, .int x2), (3, .int x3), (4, .int x4), (5, .int x5)] [] h := by
  have hn12 : ∀ w ∈ wsX120, w ∈ wsX12_layPlan := (fun _ hw => (List.mem_cons_of_mem _ (List.mem_append_right _ hw)))
  intro n9
  induction n9 with
  | zero =>
    intro x4 x5 y hlp
    cases hlp
  | succ n9 ih =>
    intro x4 x5 y hlp hk
    obtain ⟨k9, z, hk9, hf, hy⟩ := lp_e hlp
    cases hk9
    replace hf : lb_X12_layPlan_23 x1 x2 x3 h x4 x5 = some z := hf
    unfold lb_X12_layPlan_23 at hf
    refine go_iload hC dX12_layPlan_23 5 rfl ?_
    refine go_aload_n hC dX12_layPlan_25 rfl 0 rfl ?_
    refine go_geti hC (j := 19) (idx := 170) (nm := "points") (ds := "I") (b_43 _) rfl rfl hn12 (Nat.le_of_ble_eq_true rfl) rfl rfl (List.mem_cons_of_mem _ (List.mem_append_left _ (List.mem_append_left _ (List.mem_of_getElem? (i := 3) rfl)))) (Or.inl rfl) dX12_layPlan_26 ?_
    refine go_icmp_ge hC dX12_layPlan_29 (tgt := 44) (by decide) (fun c_10 => ?_) (fun c_10 => ?_)
    · replace hf := if_t c_10 hf
      obtain rfl := so_1 hf
      obtain rfl := lp_x hy
      refine go_sub [0, 1, 2, 3, 4] rfl ?_
      exact hk
    · replace hf := if_f c_10 hf
      refine go_iload hC dX12_layPlan_32 4 rfl ?_
      refine go_iload_n hC dX12_layPlan_34 rfl 1 rfl ?_
      refine go_imul hC dX12_layPlan_35 ?_
      obtain ⟨x4_8, ex4_8, hf⟩ := lt_e hf
      refine go_topi ex4_8 ?_
      refine go_istore hC dX12_layPlan_36 (Nat.le_of_ble_eq_true rfl) rfl ?_
      obtain ⟨x5_9, ex5_9, hf⟩ := lt_e hf
      refine go_iinc hC dX12_layPlan_38 5 rfl k1_1 ex5_9 (Nat.le_of_ble_eq_true rfl) rfl ?_
      refine go_goto hC dX12_layPlan_41 (tgt := 23) (by decide) ?_
      obtain rfl := so_1 hf
      refine go_sub [2, 3, 4, 5, 1, 0] rfl ?_
      exact ih x4_8 x5_9 _ (lp_c hy) hk
set_option maxRecDepth 100000 in
set_option maxHeartbeats 4000000 in
theorem lw_X12_layPlan_47 {C : GC} (hC : Cx C cX12_layPlan 7 wsX12_layPlan RX12 none (rm_d 3)) (x1 : Int32) (x2 : Int32) (x3 : Int32) (x4 : Int32) : ∀ (n9 : Nat) (x5 : Int32) (h : PH) (y : Int32 × PH), lp_f (fun s => lb_X12_layPlan_47 x1 x2 x3 x4 s.1 s.2) n9 (x5, h) = some y → ∀ (hk : Go l0_B C 0 0 106 [] [] y.2), Go l0_B C 0 0 47 [(0, .ref 43), (1, .int x1), (2, .int x2), (3, .int x3), (4, .int x4), (5, .int x5)] [] h := by
  have hn12 : ∀ w ∈ wsX120, w ∈ wsX12_layPlan := (fun _ hw => (List.mem_cons_of_mem _ (List.mem_append_right _ hw)))
  intro n9
  induction n9 with
  | zero =>
    intro x5 h y hlp
    cases hlp
  | succ n9 ih =>
    intro x5 h y hlp hk
    obtain ⟨k9, z, hk9, hf, hy⟩ := lp_e hlp
    cases hk9
    replace hf : lb_X12_layPlan_47 x1 x2 x3 x4 x5 h = some z := hf
    unfold lb_X12_layPlan_47 at hf
    refine go_iload hC dX12_layPlan_47 5 rfl ?_
    refine go_iload hC dX12_layPlan_49 4 rfl ?_
    refine go_icmp_ge hC dX12_layPlan_51 (tgt := 106) (by decide) (fun c_43 => ?_) (fun c_43 => ?_)
    · replace hf := if_t c_43 hf
      obtain rfl := so_1 hf
      obtain rfl := lp_x hy
      refine go_sub [] rfl ?_
      exact hk
    · replace hf := if_f c_43 hf
      refine go_aload_n hC dX12_layPlan_54 rfl 0 rfl ?_
      refine go_iload hC dX12_layPlan_55 5 rfl ?_
      refine go_iload_n hC dX12_layPlan_57 rfl 1 rfl ?_
      obtain ⟨r_28, h_29, hc, hf⟩ := bd_e2 hf
      refine go_callV hC (c_X12_takeRow x5 x1 h h_29 hc) gX12_layPlan_X12_takeRow rfl ⟨rfl, rfl⟩ 2 e_X12_takeRow ⟨Nat.le_of_ble_eq_true rfl, Nat.le_of_ble_eq_true rfl⟩ (b_43 _) rfl rfl (st := []) (st1 := []) rfl rfl (Nat.le_of_ble_eq_true rfl) ⟨Nat.zero_le _, Nat.zero_le _⟩ dX12_layPlan_58 ?_
      refine go_aload_n hC dX12_layPlan_61 rfl 0 rfl ?_
      refine go_iload_n hC dX12_layPlan_62 rfl 2 rfl ?_
      obtain ⟨r_30, hc, hf⟩ := bd_e1 hf
      refine go_callV hC (c_X12_cableTogether x2 h_29 r_30 hc) gX12_layPlan_X12_cableTogether rfl ⟨rfl, rfl⟩ 1 e_X12_cableTogether ⟨Nat.le_of_ble_eq_true rfl, Nat.le_of_ble_eq_true rfl⟩ (b_43 _) rfl rfl (st := []) (st1 := [.int r_30]) rfl rfl (Nat.le_of_ble_eq_true rfl) ⟨Nat.zero_le _, Nat.zero_le _⟩ dX12_layPlan_63 ?_
      refine go_istore hC dX12_layPlan_66 (Nat.le_of_ble_eq_true rfl) rfl ?_
      refine go_iload hC dX12_layPlan_68 0 rfl ?_
      refine go_aload_n hC dX12_layPlan_70 rfl 1 rfl ?_
      refine go_geti hC (j := 34) (idx := 285) (nm := "bestCable") (ds := "I") (b_43 _) rfl rfl hn12 (Nat.le_of_ble_eq_true rfl) rfl rfl (List.mem_cons_of_mem _ (List.mem_append_left _ (List.mem_append_left _ (List.mem_of_getElem? (i := 2) rfl)))) (Or.inl rfl) dX12_layPlan_71 ?_
      refine go_icmp_ge hC dX12_layPlan_74 (tgt := 100) (by decide) (fun c_42 => ?_) (fun c_42 => ?_)
      · replace hf := if_t c_42 hf
        obtain ⟨x5_31, ex5_31, hf⟩ := lt_e hf
        refine go_iinc hC dX12_layPlan_100 6 rfl k1_1 ex5_31 (Nat.le_of_ble_eq_true rfl) rfl ?_
        refine go_goto hC dX12_layPlan_103 (tgt := 47) (by decide) ?_
        obtain rfl := so_1 hf
        refine go_sub [2, 3, 4, 5, 6, 0] rfl ?_
        exact ih x5_31 h_29 _ (lp_c hy) hk
      · replace hf := if_f c_42 hf
        refine go_iload_n hC dX12_layPlan_77 rfl 4 rfl ?_
        refine go_if_eq hC dX12_layPlan_78 (tgt := 88) (by decide) (fun c_41 => ?_) (fun c_41 => ?_)
        · replace hf := if_t c_41 hf
          refine go_aload_n hC dX12_layPlan_88 rfl 1 rfl ?_
          refine go_iload hC dX12_layPlan_89 6 rfl ?_
          obtain ⟨h_32, eh_32, hf⟩ := lt_e hf
          refine go_puti hC tyX12 (j := 33) (idx := 282) (nm := "bestRow") (ds := "I") (b_43 _) rfl rfl hn12 tyX12_ok nmX12 (Nat.le_of_ble_eq_true rfl) rfl rfl (List.mem_cons_of_mem _ (List.mem_append_left _ (List.mem_append_left _ (List.mem_of_getElem? (i := 0) rfl)))) (Or.inl rfl) rfl (tyX12_ok _ (Nat.le_of_ble_eq_true rfl)) dX12_layPlan_91 ?_
          refine go_toph eh_32 ?_
          refine go_aload_n hC dX12_layPlan_94 rfl 1 rfl ?_
          refine go_iload hC dX12_layPlan_95 0 rfl ?_
          obtain ⟨h_33, eh_33, hf⟩ := lt_e hf
          refine go_puti hC tyX12 (j := 34) (idx := 285) (nm := "bestCable") (ds := "I") (b_43 _) rfl rfl hn12 tyX12_ok nmX12 (Nat.le_of_ble_eq_true rfl) rfl rfl (List.mem_cons_of_mem _ (List.mem_append_left _ (List.mem_append_left _ (List.mem_of_getElem? (i := 2) rfl)))) (Or.inl rfl) rfl (tyX12_ok _ (Nat.le_of_ble_eq_true rfl)) dX12_layPlan_97 ?_
          refine go_toph eh_33 ?_
          obtain ⟨x5_34, ex5_34, hf⟩ := lt_e hf
          refine go_iinc hC dX12_layPlan_100 6 rfl k1_1 ex5_34 (Nat.le_of_ble_eq_true rfl) rfl ?_
          refine go_goto hC dX12_layPlan_103 (tgt := 47) (by decide) ?_
          obtain rfl := so_1 hf
          refine go_sub [2, 3, 4, 5, 6, 0] rfl ?_
          exact ih x5_34 h_33 _ (lp_c hy) hk
        · replace hf := if_f c_41 hf
          refine go_aload_n hC dX12_layPlan_81 rfl 1 rfl ?_
          obtain ⟨r_35, hc, hf⟩ := bd_e1 hf
          refine go_callV hC (c_X12_isDark h_29 r_35 hc) gX12_layPlan_X12_isDark rfl ⟨rfl, rfl⟩ 0 e_X12_isDark ⟨Nat.le_of_ble_eq_true rfl, Nat.le_of_ble_eq_true rfl⟩ (b_43 _) rfl rfl (st := []) (st1 := [.int r_35]) rfl rfl (Nat.le_of_ble_eq_true rfl) ⟨Nat.zero_le _, Nat.zero_le _⟩ dX12_layPlan_82 ?_
          refine go_if_ne hC dX12_layPlan_85 (tgt := 100) (by decide) (fun c_40 => ?_) (fun c_40 => ?_)
          · replace hf := if_f c_40 hf
            obtain ⟨x5_36, ex5_36, hf⟩ := lt_e hf
            refine go_iinc hC dX12_layPlan_100 6 rfl k1_1 ex5_36 (Nat.le_of_ble_eq_true rfl) rfl ?_
            refine go_goto hC dX12_layPlan_103 (tgt := 47) (by decide) ?_
            obtain rfl := so_1 hf
            refine go_sub [2, 3, 4, 5, 6, 0] rfl ?_
            exact ih x5_36 h_29 _ (lp_c hy) hk
          · replace hf := if_t c_40 hf
            refine go_aload_n hC dX12_layPlan_88 rfl 1 rfl ?_
            refine go_iload hC dX12_layPlan_89 6 rfl ?_
            obtain ⟨h_37, eh_37, hf⟩ := lt_e hf
            refine go_puti hC tyX12 (j := 33) (idx := 282) (nm := "bestRow") (ds := "I") (b_43 _) rfl rfl hn12 tyX12_ok nmX12 (Nat.le_of_ble_eq_true rfl) rfl rfl (List.mem_cons_of_mem _ (List.mem_append_left _ (List.mem_append_left _ (List.mem_of_getElem? (i := 0) rfl)))) (Or.inl rfl) rfl (tyX12_ok _ (Nat.le_of_ble_eq_true rfl)) dX12_layPlan_91 ?_
            refine go_toph eh_37 ?_
            refine go_aload_n hC dX12_layPlan_94 rfl 1 rfl ?_
            refine go_iload hC dX12_layPlan_95 0 rfl ?_
            obtain ⟨h_38, eh_38, hf⟩ := lt_e hf
            refine go_puti hC tyX12 (j := 34) (idx := 285) (nm := "bestCable") (ds := "I") (b_43 _) rfl rfl hn12 tyX12_ok nmX12 (Nat.le_of_ble_eq_true rfl) rfl rfl (List.mem_cons_of_mem _ (List.mem_append_left _ (List.mem_append_left _ (List.mem_of_getElem? (i := 2) rfl)))) (Or.inl rfl) rfl (tyX12_ok _ (Nat.le_of_ble_eq_true rfl)) dX12_layPlan_97 ?_
            refine go_toph eh_38 ?_
            obtain ⟨x5_39, ex5_39, hf⟩ := lt_e hf
            refine go_iinc hC dX12_layPlan_100 6 rfl k1_1 ex5_39 (Nat.le_of_ble_eq_true rfl) rfl ?_
            refine go_goto hC dX12_layPlan_103 (tgt := 47) (by decide) ?_
            obtain rfl := so_1 hf
            refine go_sub [2, 3, 4, 5, 6, 0] rfl ?_
            exact ih x5_39 h_38 _ (lp_c hy) hk
theorem e_X12_layPlan : yX12_layPlan.cls = RX12 ∧ yX12_layPlan.cls ≠ "java/lang/invoke/MethodHandle" ∧ yX12_layPlan.cls ≠ "java/lang/invoke/VarHandle" ∧ (parseMethodDescriptor yX12_layPlan.desc).map (fun d => d.parameters.length) = some 3 := by decide +kernel
set_option maxRecDepth 100000 in
set_option maxHeartbeats 4000000 in
theorem c_X12_layPlan (x1 : Int32) (x2 : Int32) (x3 : Int32) (h : PH) (h2 : PH) (hf : f_X12_layPlan x1 x2 x3 h = some ((), h2)) : Con yX12_layPlan wsX12_layPlan (rm_d 3) l0_B [.ref 43, .int x1, .int x2, .int x3] h none h2 := by
  have hn12 : ∀ w ∈ wsX120, w ∈ wsX12_layPlan := (fun _ hw => (List.mem_cons_of_mem _ (List.mem_append_right _ hw)))
  refine con_v (cc := cX12_layPlan) (nL := 7) (by decide) rfl (Nat.le_of_ble_eq_true rfl) ?_
  intro C hC hret
  change Go l0_B C 0 0 0 [(0, .ref 43), (1, .int x1), (2, .int x2), (3, .int x3)] [] h
  unfold f_X12_layPlan at hf
  refine go_aload_n hC dX12_layPlan_0 rfl 0 rfl ?_
  refine go_iconst hC dX12_layPlan_1 k1_0 ?_
  obtain ⟨r_1, h_2, hc, hf⟩ := bd_e2 hf
  refine go_callV hC (c_X12_layNeeds 0 h h_2 hc) gX12_layPlan_X12_layNeeds rfl ⟨rfl, rfl⟩ 1 e_X12_layNeeds ⟨Nat.le_of_ble_eq_true rfl, Nat.le_of_ble_eq_true rfl⟩ (b_43 _) rfl rfl (st := []) (st1 := []) rfl rfl (Nat.le_of_ble_eq_true rfl) ⟨Nat.zero_le _, Nat.zero_le _⟩ dX12_layPlan_2 ?_
  refine go_aload_n hC dX12_layPlan_5 rfl 0 rfl ?_
  refine go_bipush hC dX12_layPlan_6 k8_m9 ?_
  obtain ⟨h_3, eh_3, hf⟩ := lt_e hf
  refine go_puti hC tyX12 (j := 33) (idx := 282) (nm := "bestRow") (ds := "I") (b_43 _) rfl rfl hn12 tyX12_ok nmX12 (Nat.le_of_ble_eq_true rfl) rfl rfl (List.mem_cons_of_mem _ (List.mem_append_left _ (List.mem_append_left _ (List.mem_of_getElem? (i := 0) rfl)))) (Or.inl rfl) rfl (tyX12_ok _ (Nat.le_of_ble_eq_true rfl)) dX12_layPlan_8 ?_
  refine go_toph eh_3 ?_
  refine go_aload_n hC dX12_layPlan_11 rfl 0 rfl ?_
  refine go_ldc hC (v := 10000000) (List.mem_cons_of_mem _ (List.mem_append_left _ (List.mem_append_left _ (List.mem_of_getElem? (i := 1) rfl)))) dX12_layPlan_12 ?_
  obtain ⟨h_4, eh_4, hf⟩ := lt_e hf
  refine go_puti hC tyX12 (j := 34) (idx := 285) (nm := "bestCable") (ds := "I") (b_43 _) rfl rfl hn12 tyX12_ok nmX12 (Nat.le_of_ble_eq_true rfl) rfl rfl (List.mem_cons_of_mem _ (List.mem_append_left _ (List.mem_append_left _ (List.mem_of_getElem? (i := 2) rfl)))) (Or.inl rfl) rfl (tyX12_ok _ (Nat.le_of_ble_eq_true rfl)) dX12_layPlan_14 ?_
  refine go_toph eh_4 ?_
  refine go_iconst hC dX12_layPlan_17 k1_1 ?_
  refine go_istore hC dX12_layPlan_18 (Nat.le_of_ble_eq_true rfl) rfl ?_
  refine go_iconst hC dX12_layPlan_20 k1_0 ?_
  refine go_istore hC dX12_layPlan_21 (Nat.le_of_ble_eq_true rfl) rfl ?_
  obtain ⟨s_11, hl, hf⟩ := bd_e1 hf
  refine go_sub [2, 3, 4, 5, 1, 0] rfl ?_
  refine lw_X12_layPlan_23 hC x1 x2 x3 h_4 _ 1 0 s_11 hl ?_
  refine go_iconst hC dX12_layPlan_44 k1_0 ?_
  refine go_istore hC dX12_layPlan_45 (Nat.le_of_ble_eq_true rfl) rfl ?_
  obtain ⟨s_44, hl, hf⟩ := bd_e1 hf
  refine go_sub [1, 2, 3, 4, 5, 0] rfl ?_
  refine lw_X12_layPlan_47 hC x1 x2 x3 s_11.1 _ 0 h_4 s_44 hl ?_
  obtain ⟨-, rfl⟩ := so_2 hf
  exact hret _ _ dX12_layPlan_106
def f_X12_isPlan (x0 : Int32) (x1 : Int32) (h : PH) : Option (Int32) :=
  bd_1 (f_X12_in x0.toInt64 1 3 h) fun r_1 =>
  if r_1 = 0 then (
  some 0)
  else (
  bd_1 (f_X12_in x1.toInt64 1 99 h) fun r_2 =>
  if r_2 = 0 then (
  some 0)
  else (
  some 1))
theorem e_X12_isPlan : yX12_isPlan.cls ≠ "java/lang/invoke/MethodHandle" ∧ yX12_isPlan.cls ≠ "java/lang/invoke/VarHandle" ∧ (parseMethodDescriptor yX12_isPlan.desc).map (fun d => d.parameters.length) = some 2 := by decide +kernel
set_option maxRecDepth 100000 in
set_option maxHeartbeats 4000000 in
theorem c_X12_isPlan (x0 : Int32) (x1 : Int32) (h : PH) (r : Int32) (hf : f_X12_isPlan x0 x1 h = some r) : Con yX12_isPlan wsX12_isPlan (rm_d 1) l0_B [.int x0, .int x1] h (some (.int r)) h := by

  refine con_i (ty := .boolean) (cc := cX12_isPlan) (nL := 2) (by decide) rfl (Nat.le_of_ble_eq_true rfl) ?_
  intro C hC hret
  change Go l0_B C 0 0 0 [(0, .int x0), (1, .int x1)] [] h
  unfold f_X12_isPlan at hf
  refine go_iload_n hC dX12_isPlan_0 rfl 0 rfl ?_
  refine go_i2l hC dX12_isPlan_1 ?_
  refine go_lconst hC dX12_isPlan_2 (v := 1) rfl ?_
  refine go_ldc2 hC (v := 3) (List.mem_cons_of_mem _ (List.mem_of_getElem? (i := 0) rfl)) dX12_isPlan_3 ?_
  obtain ⟨r_1, hc, hf⟩ := bd_e1 hf
  refine go_callS hC (c_X12_in x0.toInt64 1 3 h r_1 hc) gX12_isPlan_X12_in rfl ⟨rfl, rfl⟩ 3 e_X12_in ⟨Nat.le_of_ble_eq_true rfl, Nat.le_of_ble_eq_true rfl⟩ rfl (st := []) (st1 := [.int r_1]) rfl rfl (Nat.le_of_ble_eq_true rfl) ⟨Nat.zero_le _, Nat.zero_le _⟩ dX12_isPlan_6 ?_
  refine go_if_eq hC dX12_isPlan_9 (tgt := 28) (by decide) (fun c_4 => ?_) (fun c_4 => ?_)
  · replace hf := if_t c_4 hf
    refine go_iconst hC dX12_isPlan_28 k1_0 ?_
    obtain rfl := so_1 hf
    exact hret _ _ (zo_n (Or.inl rfl)) dX12_isPlan_29
  · replace hf := if_f c_4 hf
    refine go_iload_n hC dX12_isPlan_12 rfl 1 rfl ?_
    refine go_i2l hC dX12_isPlan_13 ?_
    refine go_lconst hC dX12_isPlan_14 (v := 1) rfl ?_
    refine go_ldc2 hC (v := 99) (List.mem_cons_of_mem _ (List.mem_of_getElem? (i := 1) rfl)) dX12_isPlan_15 ?_
    obtain ⟨r_2, hc, hf⟩ := bd_e1 hf
    refine go_callS hC (c_X12_in x1.toInt64 1 99 h r_2 hc) gX12_isPlan_X12_in rfl ⟨rfl, rfl⟩ 3 e_X12_in ⟨Nat.le_of_ble_eq_true rfl, Nat.le_of_ble_eq_true rfl⟩ rfl (st := []) (st1 := [.int r_2]) rfl rfl (Nat.le_of_ble_eq_true rfl) ⟨Nat.zero_le _, Nat.zero_le _⟩ dX12_isPlan_18 ?_
    refine go_if_eq hC dX12_isPlan_21 (tgt := 28) (by decide) (fun c_3 => ?_) (fun c_3 => ?_)
    · replace hf := if_t c_3 hf
      refine go_iconst hC dX12_isPlan_28 k1_0 ?_
      obtain rfl := so_1 hf
      exact hret _ _ (zo_n (Or.inl rfl)) dX12_isPlan_29
    · replace hf := if_f c_3 hf
      refine go_iconst hC dX12_isPlan_24 k1_1 ?_
      refine go_goto hC dX12_isPlan_25 (tgt := 29) (by decide) ?_
      obtain rfl := so_1 hf
      exact hret _ _ (zo_n (Or.inr rfl)) dX12_isPlan_29
def f_X12_plan (x1 : Int32) (x2 : Int32) (x3 : Int32) (h : PH) : Option (Int32 × PH) :=
  bd_1 (f_X12_isPlan x1 x2 h) fun r_1 =>
  if r_1 = 0 then (
  some ((-2), h))
  else (
  if (h.1 43 19) = 0 then (
  some ((-3), h))
  else (
  bd_2 (f_X12_layPlan x1 x2 x3 h) fun r_2 h_3 =>
  if 0 ≤ (h_3.1 43 33) then (
  some (h_3.1 43 34, h_3))
  else (
  some ((-9), h_3))))
theorem e_X12_plan : yX12_plan.cls = RX12 ∧ yX12_plan.cls ≠ "java/lang/invoke/MethodHandle" ∧ yX12_plan.cls ≠ "java/lang/invoke/VarHandle" ∧ (parseMethodDescriptor yX12_plan.desc).map (fun d => d.parameters.length) = some 3 := by decide +kernel
set_option maxRecDepth 100000 in
set_option maxHeartbeats 4000000 in
theorem c_X12_plan (x1 : Int32) (x2 : Int32) (x3 : Int32) (h : PH) (h2 : PH) (r : Int32) (hf : f_X12_plan x1 x2 x3 h = some (r, h2)) : Con yX12_plan wsX12_plan (rm_d 4) l0_B [.ref 43, .int x1, .int x2, .int x3] h (some (.int r)) h2 := by
  have hn12 : ∀ w ∈ wsX120, w ∈ wsX12_plan := (fun _ hw => (List.mem_cons_of_mem _ (List.mem_append_right _ hw)))
  refine con_i (ty := .int) (cc := cX12_plan) (nL := 4) (by decide) rfl (Nat.le_of_ble_eq_true rfl) ?_
  intro C hC hret
  change Go l0_B C 0 0 0 [(0, .ref 43), (1, .int x1), (2, .int x2), (3, .int x3)] [] h
  unfold f_X12_plan at hf
  refine go_iload_n hC dX12_plan_0 rfl 1 rfl ?_
  refine go_iload_n hC dX12_plan_1 rfl 2 rfl ?_
  obtain ⟨r_1, hc, hf⟩ := bd_e1 hf
  refine go_callS hC (c_X12_isPlan x1 x2 h r_1 hc) gX12_plan_X12_isPlan rfl ⟨rfl, rfl⟩ 2 e_X12_isPlan ⟨Nat.le_of_ble_eq_true rfl, Nat.le_of_ble_eq_true rfl⟩ rfl (st := []) (st1 := [.int r_1]) rfl rfl (Nat.le_of_ble_eq_true rfl) ⟨Nat.zero_le _, Nat.zero_le _⟩ dX12_plan_2 ?_
  refine go_if_ne hC dX12_plan_5 (tgt := 11) (by decide) (fun c_6 => ?_) (fun c_6 => ?_)
  · replace hf := if_f c_6 hf
    refine go_aload_n hC dX12_plan_11 rfl 0 rfl ?_
    refine go_geti hC (j := 19) (idx := 170) (nm := "points") (ds := "I") (b_43 _) rfl rfl hn12 (Nat.le_of_ble_eq_true rfl) rfl rfl (List.mem_cons_of_mem _ (List.mem_append_left _ (List.mem_append_left _ (List.mem_of_getElem? (i := 0) rfl)))) (Or.inl rfl) dX12_plan_12 ?_
    refine go_if_ne hC dX12_plan_15 (tgt := 21) (by decide) (fun c_5 => ?_) (fun c_5 => ?_)
    · replace hf := if_f c_5 hf
      refine go_aload_n hC dX12_plan_21 rfl 0 rfl ?_
      refine go_iload_n hC dX12_plan_22 rfl 1 rfl ?_
      refine go_iload_n hC dX12_plan_23 rfl 2 rfl ?_
      refine go_iload_n hC dX12_plan_24 rfl 3 rfl ?_
      obtain ⟨r_2, h_3, hc, hf⟩ := bd_e2 hf
      refine go_callV hC (c_X12_layPlan x1 x2 x3 h h_3 hc) gX12_plan_X12_layPlan rfl ⟨rfl, rfl⟩ 3 e_X12_layPlan ⟨Nat.le_of_ble_eq_true rfl, Nat.le_of_ble_eq_true rfl⟩ (b_43 _) rfl rfl (st := []) (st1 := []) rfl rfl (Nat.le_of_ble_eq_true rfl) ⟨Nat.zero_le _, Nat.zero_le _⟩ dX12_plan_25 ?_
      refine go_aload_n hC dX12_plan_28 rfl 0 rfl ?_
      refine go_geti hC (j := 33) (idx := 282) (nm := "bestRow") (ds := "I") (b_43 _) rfl rfl hn12 (Nat.le_of_ble_eq_true rfl) rfl rfl (List.mem_cons_of_mem _ (List.mem_append_left _ (List.mem_append_left _ (List.mem_of_getElem? (i := 1) rfl)))) (Or.inl rfl) dX12_plan_29 ?_
      refine go_if_ge hC dX12_plan_32 (tgt := 40) (by decide) (fun c_4 => ?_) (fun c_4 => ?_)
      · replace hf := if_t c_4 hf
        refine go_aload_n hC dX12_plan_40 rfl 0 rfl ?_
        refine go_geti hC (j := 34) (idx := 285) (nm := "bestCable") (ds := "I") (b_43 _) rfl rfl hn12 (Nat.le_of_ble_eq_true rfl) rfl rfl (List.mem_cons_of_mem _ (List.mem_append_left _ (List.mem_append_left _ (List.mem_of_getElem? (i := 2) rfl)))) (Or.inl rfl) dX12_plan_41 ?_
        obtain ⟨rfl, rfl⟩ := so_2 hf
        exact hret _ _ rfl dX12_plan_44
      · replace hf := if_f c_4 hf
        refine go_bipush hC dX12_plan_35 k8_m9 ?_
        refine go_goto hC dX12_plan_37 (tgt := 44) (by decide) ?_
        obtain ⟨rfl, rfl⟩ := so_2 hf
        exact hret _ _ rfl dX12_plan_44
    · replace hf := if_t c_5 hf
      refine go_bipush hC dX12_plan_18 k8_m3 ?_
      obtain ⟨rfl, rfl⟩ := so_2 hf
      exact hret _ _ rfl dX12_plan_20
  · replace hf := if_t c_6 hf
    refine go_bipush hC dX12_plan_8 k8_m2 ?_
    obtain ⟨rfl, rfl⟩ := so_2 hf
    exact hret _ _ rfl dX12_plan_10
def f_X12_on (x1 : Int32) (x2 : Int32) (x3 : Int32) (x4 : Int32) (h : PH) : Option (Int32 × PH) :=
  bd_1 (f_X12_noPoint x4 h) fun r_1 =>
  if r_1 = 0 then (
  bd_1 (f_X12_isPlan x1 x2 h) fun r_2 =>
  if r_2 = 0 then (
  some ((-2), h))
  else (
  bd_2 (f_X12_layPlan x1 x2 x3 h) fun r_3 h_4 =>
  if 0 ≤ (h_4.1 43 33) then (
  bd_2 (f_X12_takeRow (h_4.1 43 33) x1 h_4) fun r_5 h_6 =>
  ga_i 0 3 (
  bd_1 (f_X12_hasBit (h_6.1 64 (0 : Int32).toNatClampNeg) x4 h_6) fun r_8 =>
  if r_8 = 0 then (
  ga_i 1 3 (
  bd_1 (f_X12_hasBit (h_6.1 64 (1 : Int32).toNatClampNeg) x4 h_6) fun r_10 =>
  if r_10 = 0 then (
  some (2, h_6))
  else (
  some (1, h_6))))
  else (
  some (0, h_6))))
  else (
  some ((-9), h_4))))
  else (
  some ((-1), h))
theorem e_X12_on : yX12_on.cls = RX12 ∧ yX12_on.cls ≠ "java/lang/invoke/MethodHandle" ∧ yX12_on.cls ≠ "java/lang/invoke/VarHandle" ∧ (parseMethodDescriptor yX12_on.desc).map (fun d => d.parameters.length) = some 4 := by decide +kernel
set_option maxRecDepth 100000 in
set_option maxHeartbeats 4000000 in
theorem c_X12_on (x1 : Int32) (x2 : Int32) (x3 : Int32) (x4 : Int32) (h : PH) (h2 : PH) (r : Int32) (hf : f_X12_on x1 x2 x3 x4 h = some (r, h2)) : Con yX12_on wsX12_on (rm_d 4) l0_B [.ref 43, .int x1, .int x2, .int x3, .int x4] h (some (.int r)) h2 := by
  have hn12 : ∀ w ∈ wsX120, w ∈ wsX12_on := (fun _ hw => (List.mem_cons_of_mem _ (List.mem_append_right _ hw)))
  refine con_i (ty := .int) (cc := cX12_on) (nL := 5) (by decide) rfl (Nat.le_of_ble_eq_true rfl) ?_
  intro C hC hret
  change Go l0_B C 0 0 0 [(0, .ref 43), (1, .int x1), (2, .int x2), (3, .int x3), (4, .int x4)] [] h
  unfold f_X12_on at hf
  refine go_aload_n hC dX12_on_0 rfl 0 rfl ?_
  refine go_iload hC dX12_on_1 4 rfl ?_
  obtain ⟨r_1, hc, hf⟩ := bd_e1 hf
  refine go_callV hC (c_X12_noPoint x4 h r_1 hc) gX12_on_X12_noPoint rfl ⟨rfl, rfl⟩ 1 e_X12_noPoint ⟨Nat.le_of_ble_eq_true rfl, Nat.le_of_ble_eq_true rfl⟩ (b_43 _) rfl rfl (st := []) (st1 := [.int r_1]) rfl rfl (Nat.le_of_ble_eq_true rfl) ⟨Nat.zero_le _, Nat.zero_le _⟩ dX12_on_3 ?_
  refine go_if_eq hC dX12_on_6 (tgt := 11) (by decide) (fun c_15 => ?_) (fun c_15 => ?_)
  · replace hf := if_t c_15 hf
    refine go_iload_n hC dX12_on_11 rfl 1 rfl ?_
    refine go_iload_n hC dX12_on_12 rfl 2 rfl ?_
    obtain ⟨r_2, hc, hf⟩ := bd_e1 hf
    refine go_callS hC (c_X12_isPlan x1 x2 h r_2 hc) gX12_on_X12_isPlan rfl ⟨rfl, rfl⟩ 2 e_X12_isPlan ⟨Nat.le_of_ble_eq_true rfl, Nat.le_of_ble_eq_true rfl⟩ rfl (st := []) (st1 := [.int r_2]) rfl rfl (Nat.le_of_ble_eq_true rfl) ⟨Nat.zero_le _, Nat.zero_le _⟩ dX12_on_13 ?_
    refine go_if_ne hC dX12_on_16 (tgt := 22) (by decide) (fun c_14 => ?_) (fun c_14 => ?_)
    · replace hf := if_f c_14 hf
      refine go_aload_n hC dX12_on_22 rfl 0 rfl ?_
      refine go_iload_n hC dX12_on_23 rfl 1 rfl ?_
      refine go_iload_n hC dX12_on_24 rfl 2 rfl ?_
      refine go_iload_n hC dX12_on_25 rfl 3 rfl ?_
      obtain ⟨r_3, h_4, hc, hf⟩ := bd_e2 hf
      refine go_callV hC (c_X12_layPlan x1 x2 x3 h h_4 hc) gX12_on_X12_layPlan rfl ⟨rfl, rfl⟩ 3 e_X12_layPlan ⟨Nat.le_of_ble_eq_true rfl, Nat.le_of_ble_eq_true rfl⟩ (b_43 _) rfl rfl (st := []) (st1 := []) rfl rfl (Nat.le_of_ble_eq_true rfl) ⟨Nat.zero_le _, Nat.zero_le _⟩ dX12_on_26 ?_
      refine go_aload_n hC dX12_on_29 rfl 0 rfl ?_
      refine go_geti hC (j := 33) (idx := 282) (nm := "bestRow") (ds := "I") (b_43 _) rfl rfl hn12 (Nat.le_of_ble_eq_true rfl) rfl rfl (List.mem_cons_of_mem _ (List.mem_append_left _ (List.mem_append_left _ (List.mem_of_getElem? (i := 0) rfl)))) (Or.inl rfl) dX12_on_30 ?_
      refine go_if_ge hC dX12_on_33 (tgt := 39) (by decide) (fun c_13 => ?_) (fun c_13 => ?_)
      · replace hf := if_t c_13 hf
        refine go_aload_n hC dX12_on_39 rfl 0 rfl ?_
        refine go_aload_n hC dX12_on_40 rfl 0 rfl ?_
        refine go_geti hC (j := 33) (idx := 282) (nm := "bestRow") (ds := "I") (b_43 _) rfl rfl hn12 (Nat.le_of_ble_eq_true rfl) rfl rfl (List.mem_cons_of_mem _ (List.mem_append_left _ (List.mem_append_left _ (List.mem_of_getElem? (i := 0) rfl)))) (Or.inl rfl) dX12_on_41 ?_
        refine go_iload_n hC dX12_on_44 rfl 1 rfl ?_
        obtain ⟨r_5, h_6, hc, hf⟩ := bd_e2 hf
        refine go_callV hC (c_X12_takeRow (h_4.1 43 33) x1 h_4 h_6 hc) gX12_on_X12_takeRow rfl ⟨rfl, rfl⟩ 2 e_X12_takeRow ⟨Nat.le_of_ble_eq_true rfl, Nat.le_of_ble_eq_true rfl⟩ (b_43 _) rfl rfl (st := []) (st1 := []) rfl rfl (Nat.le_of_ble_eq_true rfl) ⟨Nat.zero_le _, Nat.zero_le _⟩ dX12_on_45 ?_
        refine go_aload_n hC dX12_on_48 rfl 0 rfl ?_
        refine go_getr hC (j := 32) (idx := 72) (nm := "setOn") (ds := "[I") (b_43 _) rfl rfl hn12 (Nat.le_of_ble_eq_true rfl) rfl rfl (List.mem_cons_of_mem _ (List.mem_append_left _ (List.mem_append_left _ (List.mem_of_getElem? (i := 1) rfl)))) (Or.inl rfl) dX12_on_49 ?_
        refine go_iconst hC dX12_on_52 k1_0 ?_
        obtain ⟨g_7, hf⟩ := ga_e hf
        refine go_iald hC (b_64 _) g_7 dX12_on_53 ?_
        refine go_iload hC dX12_on_54 4 rfl ?_
        obtain ⟨r_8, hc, hf⟩ := bd_e1 hf
        refine go_callS hC (c_X12_hasBit (h_6.1 64 (0 : Int32).toNatClampNeg) x4 h_6 r_8 hc) gX12_on_X12_hasBit rfl ⟨rfl, rfl⟩ 2 e_X12_hasBit ⟨Nat.le_of_ble_eq_true rfl, Nat.le_of_ble_eq_true rfl⟩ rfl (st := []) (st1 := [.int r_8]) rfl rfl (Nat.le_of_ble_eq_true rfl) ⟨Nat.zero_le _, Nat.zero_le _⟩ dX12_on_56 ?_
        refine go_if_eq hC dX12_on_59 (tgt := 66) (by decide) (fun c_12 => ?_) (fun c_12 => ?_)
        · replace hf := if_t c_12 hf
          refine go_aload_n hC dX12_on_66 rfl 0 rfl ?_
          refine go_getr hC (j := 32) (idx := 72) (nm := "setOn") (ds := "[I") (b_43 _) rfl rfl hn12 (Nat.le_of_ble_eq_true rfl) rfl rfl (List.mem_cons_of_mem _ (List.mem_append_left _ (List.mem_append_left _ (List.mem_of_getElem? (i := 1) rfl)))) (Or.inl rfl) dX12_on_67 ?_
          refine go_iconst hC dX12_on_70 k1_1 ?_
          obtain ⟨g_9, hf⟩ := ga_e hf
          refine go_iald hC (b_64 _) g_9 dX12_on_71 ?_
          refine go_iload hC dX12_on_72 4 rfl ?_
          obtain ⟨r_10, hc, hf⟩ := bd_e1 hf
          refine go_callS hC (c_X12_hasBit (h_6.1 64 (1 : Int32).toNatClampNeg) x4 h_6 r_10 hc) gX12_on_X12_hasBit rfl ⟨rfl, rfl⟩ 2 e_X12_hasBit ⟨Nat.le_of_ble_eq_true rfl, Nat.le_of_ble_eq_true rfl⟩ rfl (st := []) (st1 := [.int r_10]) rfl rfl (Nat.le_of_ble_eq_true rfl) ⟨Nat.zero_le _, Nat.zero_le _⟩ dX12_on_74 ?_
          refine go_if_eq hC dX12_on_77 (tgt := 84) (by decide) (fun c_11 => ?_) (fun c_11 => ?_)
          · replace hf := if_t c_11 hf
            refine go_iconst hC dX12_on_84 k1_2 ?_
            obtain ⟨rfl, rfl⟩ := so_2 hf
            exact hret _ _ rfl dX12_on_85
          · replace hf := if_f c_11 hf
            refine go_iconst hC dX12_on_80 k1_1 ?_
            refine go_goto hC dX12_on_81 (tgt := 85) (by decide) ?_
            obtain ⟨rfl, rfl⟩ := so_2 hf
            exact hret _ _ rfl dX12_on_85
        · replace hf := if_f c_12 hf
          refine go_iconst hC dX12_on_62 k1_0 ?_
          refine go_goto hC dX12_on_63 (tgt := 85) (by decide) ?_
          obtain ⟨rfl, rfl⟩ := so_2 hf
          exact hret _ _ rfl dX12_on_85
      · replace hf := if_f c_13 hf
        refine go_bipush hC dX12_on_36 k8_m9 ?_
        obtain ⟨rfl, rfl⟩ := so_2 hf
        exact hret _ _ rfl dX12_on_38
    · replace hf := if_t c_14 hf
      refine go_bipush hC dX12_on_19 k8_m2 ?_
      obtain ⟨rfl, rfl⟩ := so_2 hf
      exact hret _ _ rfl dX12_on_21
  · replace hf := if_f c_15 hf
    refine go_iconst hC dX12_on_9 k1_m1 ?_
    obtain ⟨rfl, rfl⟩ := so_2 hf
    exact hret _ _ rfl dX12_on_10
def lb_X12_best_38 (x1 : Int32) (x2 : Int32) (x3 : Int32) (x4 : Int32) (x5 : Int32) (x6 : Int32) (x7 : Int32) (h : PH) : Option ((Int32 × Int32 × Int32 × PH) ⊕ (Int32 × Int32 × Int32 × PH)) :=
  if (h.1 43 1) ≤ x7 then (
  some (.inr (x5, x6, x7, h)))
  else (
  lt_b (ph_i h 43 2 x7) fun h_12 =>
  bd_2 (f_X12_layPlan x1 x2 x3 h_12) fun r_13 h_14 =>
  if x6 ≤ (h_14.1 43 34) then (
  bd_1 (f_X12_lesser x6 (h_14.1 43 34) h_14) fun r_15 =>
  lt_b (x7 + 1) fun x7_16 =>
  some (.inl (x5, r_15, x7_16, h_14)))
  else (
  bd_1 (f_X12_lesser x6 (h_14.1 43 34) h_14) fun r_17 =>
  lt_b (x7 + 1) fun x7_18 =>
  some (.inl (x7, r_17, x7_18, h_14))))
def f_X12_best (x1 : Int32) (x2 : Int32) (x3 : Int32) (h : PH) : Option (Int32 × PH) :=
  bd_1 (f_X12_isPlan x1 x2 h) fun r_1 =>
  if r_1 = 0 then (
  some ((-2), h))
  else (
  if (h.1 43 19) = 0 then (
  some ((-3), h))
  else (
  lt_b (h.1 43 2) fun x4_2 =>
  bd_1 (lp_f (fun s => lb_X12_best_38 x1 x2 x3 x4_2 s.1 s.2.1 s.2.2.1 s.2.2.2) fu_l ((-9), 10000000, 0, h)) fun s_21 =>
  lt_b (ph_i s_21.2.2.2 43 2 x4_2) fun h_22 =>
  some (s_21.1, h_22)))
set_option maxRecDepth 100000 in
set_option maxHeartbeats 4000000 in
theorem lw_X12_best_38 {C : GC} (hC : Cx C cX12_best 8 wsX12_best RX12 (some .int) (rm_d 4)) (x1 : Int32) (x2 : Int32) (x3 : Int32) (x4 : Int32) : ∀ (n9 : Nat) (x5 : Int32) (x6 : Int32) (x7 : Int32) (h : PH) (y : Int32 × Int32 × Int32 × PH), lp_f (fun s => lb_X12_best_38 x1 x2 x3 x4 s.1 s.2.1 s.2.2.1 s.2.2.2) n9 (x5, x6, x7, h) = some y → ∀ (hk : Go l0_B C 0 0 95 [(0, .ref 43), (4, .int x4), (5, .int y.1)] [] y.2.2.2), Go l0_B C 0 0 38 [(0, .ref 43), (1, .int x1), (2, .int x2), (3, .int x3), (4, .int x4), (5, .int x5), (6, .int x6), (7, .int x7)] [] h := by
  have hn12 : ∀ w ∈ wsX120, w ∈ wsX12_best := (fun _ hw => (List.mem_cons_of_mem _ (List.mem_append_right _ hw)))
  intro n9
  induction n9 with
  | zero =>
    intro x5 x6 x7 h y hlp
    cases hlp
  | succ n9 ih =>
    intro x5 x6 x7 h y hlp hk
    obtain ⟨k9, z, hk9, hf, hy⟩ := lp_e hlp
    cases hk9
    replace hf : lb_X12_best_38 x1 x2 x3 x4 x5 x6 x7 h = some z := hf
    unfold lb_X12_best_38 at hf
    refine go_iload hC dX12_best_38 7 rfl ?_
    refine go_aload_n hC dX12_best_40 rfl 0 rfl ?_
    refine go_geti hC (j := 1) (idx := 117) (nm := "places") (ds := "I") (b_43 _) rfl rfl hn12 (Nat.le_of_ble_eq_true rfl) rfl rfl (List.mem_cons_of_mem _ (List.mem_append_left _ (List.mem_append_left _ (List.mem_of_getElem? (i := 3) rfl)))) (Or.inl rfl) dX12_best_41 ?_
    refine go_icmp_ge hC dX12_best_44 (tgt := 95) (by decide) (fun c_20 => ?_) (fun c_20 => ?_)
    · replace hf := if_t c_20 hf
      obtain rfl := so_1 hf
      obtain rfl := lp_x hy
      refine go_sub [0, 4, 5] rfl ?_
      exact hk
    · replace hf := if_f c_20 hf
      refine go_aload_n hC dX12_best_47 rfl 0 rfl ?_
      refine go_iload hC dX12_best_48 7 rfl ?_
      obtain ⟨h_12, eh_12, hf⟩ := lt_e hf
      refine go_puti hC tyX12 (j := 2) (idx := 167) (nm := "boxAt") (ds := "I") (b_43 _) rfl rfl hn12 tyX12_ok nmX12 (Nat.le_of_ble_eq_true rfl) rfl rfl (List.mem_cons_of_mem _ (List.mem_append_left _ (List.mem_append_left _ (List.mem_of_getElem? (i := 1) rfl)))) (Or.inl rfl) rfl (tyX12_ok _ (Nat.le_of_ble_eq_true rfl)) dX12_best_50 ?_
      refine go_toph eh_12 ?_
      refine go_aload_n hC dX12_best_53 rfl 0 rfl ?_
      refine go_iload_n hC dX12_best_54 rfl 1 rfl ?_
      refine go_iload_n hC dX12_best_55 rfl 2 rfl ?_
      refine go_iload_n hC dX12_best_56 rfl 3 rfl ?_
      obtain ⟨r_13, h_14, hc, hf⟩ := bd_e2 hf
      refine go_callV hC (c_X12_layPlan x1 x2 x3 h_12 h_14 hc) gX12_best_X12_layPlan rfl ⟨rfl, rfl⟩ 3 e_X12_layPlan ⟨Nat.le_of_ble_eq_true rfl, Nat.le_of_ble_eq_true rfl⟩ (b_43 _) rfl rfl (st := []) (st1 := []) rfl rfl (Nat.le_of_ble_eq_true rfl) ⟨Nat.zero_le _, Nat.zero_le _⟩ dX12_best_57 ?_
      refine go_aload_n hC dX12_best_60 rfl 0 rfl ?_
      refine go_geti hC (j := 34) (idx := 285) (nm := "bestCable") (ds := "I") (b_43 _) rfl rfl hn12 (Nat.le_of_ble_eq_true rfl) rfl rfl (List.mem_cons_of_mem _ (List.mem_append_left _ (List.mem_append_left _ (List.mem_of_getElem? (i := 4) rfl)))) (Or.inl rfl) dX12_best_61 ?_
      refine go_iload hC dX12_best_64 6 rfl ?_
      refine go_icmp_ge hC dX12_best_66 (tgt := 74) (by decide) (fun c_19 => ?_) (fun c_19 => ?_)
      · replace hf := if_t c_19 hf
        refine go_iload hC dX12_best_74 5 rfl ?_
        refine go_istore hC dX12_best_76 (Nat.le_of_ble_eq_true rfl) rfl ?_
        refine go_iload hC dX12_best_78 6 rfl ?_
        refine go_aload_n hC dX12_best_80 rfl 1 rfl ?_
        refine go_geti hC (j := 34) (idx := 285) (nm := "bestCable") (ds := "I") (b_43 _) rfl rfl hn12 (Nat.le_of_ble_eq_true rfl) rfl rfl (List.mem_cons_of_mem _ (List.mem_append_left _ (List.mem_append_left _ (List.mem_of_getElem? (i := 4) rfl)))) (Or.inl rfl) dX12_best_81 ?_
        obtain ⟨r_15, hc, hf⟩ := bd_e1 hf
        refine go_callS hC (c_X12_lesser x6 (h_14.1 43 34) h_14 r_15 hc) gX12_best_X12_lesser rfl ⟨rfl, rfl⟩ 2 e_X12_lesser ⟨Nat.le_of_ble_eq_true rfl, Nat.le_of_ble_eq_true rfl⟩ rfl (st := []) (st1 := [.int r_15]) rfl rfl (Nat.le_of_ble_eq_true rfl) ⟨Nat.zero_le _, Nat.zero_le _⟩ dX12_best_84 ?_
        refine go_istore hC dX12_best_87 (Nat.le_of_ble_eq_true rfl) rfl ?_
        obtain ⟨x7_16, ex7_16, hf⟩ := lt_e hf
        refine go_iinc hC dX12_best_89 7 rfl k1_1 ex7_16 (Nat.le_of_ble_eq_true rfl) rfl ?_
        refine go_goto hC dX12_best_92 (tgt := 38) (by decide) ?_
        obtain rfl := so_1 hf
        refine go_sub [3, 4, 5, 6, 7, 2, 1, 0] rfl ?_
        exact ih x5 r_15 x7_16 h_14 _ (lp_c hy) hk
      · replace hf := if_f c_19 hf
        refine go_iload hC dX12_best_69 7 rfl ?_
        refine go_goto hC dX12_best_71 (tgt := 76) (by decide) ?_
        refine go_istore hC dX12_best_76 (Nat.le_of_ble_eq_true rfl) rfl ?_
        refine go_iload hC dX12_best_78 6 rfl ?_
        refine go_aload_n hC dX12_best_80 rfl 1 rfl ?_
        refine go_geti hC (j := 34) (idx := 285) (nm := "bestCable") (ds := "I") (b_43 _) rfl rfl hn12 (Nat.le_of_ble_eq_true rfl) rfl rfl (List.mem_cons_of_mem _ (List.mem_append_left _ (List.mem_append_left _ (List.mem_of_getElem? (i := 4) rfl)))) (Or.inl rfl) dX12_best_81 ?_
        obtain ⟨r_17, hc, hf⟩ := bd_e1 hf
        refine go_callS hC (c_X12_lesser x6 (h_14.1 43 34) h_14 r_17 hc) gX12_best_X12_lesser rfl ⟨rfl, rfl⟩ 2 e_X12_lesser ⟨Nat.le_of_ble_eq_true rfl, Nat.le_of_ble_eq_true rfl⟩ rfl (st := []) (st1 := [.int r_17]) rfl rfl (Nat.le_of_ble_eq_true rfl) ⟨Nat.zero_le _, Nat.zero_le _⟩ dX12_best_84 ?_
        refine go_istore hC dX12_best_87 (Nat.le_of_ble_eq_true rfl) rfl ?_
        obtain ⟨x7_18, ex7_18, hf⟩ := lt_e hf
        refine go_iinc hC dX12_best_89 7 rfl k1_1 ex7_18 (Nat.le_of_ble_eq_true rfl) rfl ?_
        refine go_goto hC dX12_best_92 (tgt := 38) (by decide) ?_
        obtain rfl := so_1 hf
        refine go_sub [3, 4, 5, 6, 7, 2, 1, 0] rfl ?_
        exact ih x7 r_17 x7_18 h_14 _ (lp_c hy) hk
theorem e_X12_best : yX12_best.cls = RX12 ∧ yX12_best.cls ≠ "java/lang/invoke/MethodHandle" ∧ yX12_best.cls ≠ "java/lang/invoke/VarHandle" ∧ (parseMethodDescriptor yX12_best.desc).map (fun d => d.parameters.length) = some 3 := by decide +kernel
set_option maxRecDepth 100000 in
set_option maxHeartbeats 4000000 in
theorem c_X12_best (x1 : Int32) (x2 : Int32) (x3 : Int32) (h : PH) (h2 : PH) (r : Int32) (hf : f_X12_best x1 x2 x3 h = some (r, h2)) : Con yX12_best wsX12_best (rm_d 4) l0_B [.ref 43, .int x1, .int x2, .int x3] h (some (.int r)) h2 := by
  have hn12 : ∀ w ∈ wsX120, w ∈ wsX12_best := (fun _ hw => (List.mem_cons_of_mem _ (List.mem_append_right _ hw)))
  refine con_i (ty := .int) (cc := cX12_best) (nL := 8) (by decide) rfl (Nat.le_of_ble_eq_true rfl) ?_
  intro C hC hret
  change Go l0_B C 0 0 0 [(0, .ref 43), (1, .int x1), (2, .int x2), (3, .int x3)] [] h
  unfold f_X12_best at hf
  refine go_iload_n hC dX12_best_0 rfl 1 rfl ?_
  refine go_iload_n hC dX12_best_1 rfl 2 rfl ?_
  obtain ⟨r_1, hc, hf⟩ := bd_e1 hf
  refine go_callS hC (c_X12_isPlan x1 x2 h r_1 hc) gX12_best_X12_isPlan rfl ⟨rfl, rfl⟩ 2 e_X12_isPlan ⟨Nat.le_of_ble_eq_true rfl, Nat.le_of_ble_eq_true rfl⟩ rfl (st := []) (st1 := [.int r_1]) rfl rfl (Nat.le_of_ble_eq_true rfl) ⟨Nat.zero_le _, Nat.zero_le _⟩ dX12_best_2 ?_
  refine go_if_ne hC dX12_best_5 (tgt := 11) (by decide) (fun c_24 => ?_) (fun c_24 => ?_)
  · replace hf := if_f c_24 hf
    refine go_aload_n hC dX12_best_11 rfl 0 rfl ?_
    refine go_geti hC (j := 19) (idx := 170) (nm := "points") (ds := "I") (b_43 _) rfl rfl hn12 (Nat.le_of_ble_eq_true rfl) rfl rfl (List.mem_cons_of_mem _ (List.mem_append_left _ (List.mem_append_left _ (List.mem_of_getElem? (i := 0) rfl)))) (Or.inl rfl) dX12_best_12 ?_
    refine go_if_ne hC dX12_best_15 (tgt := 21) (by decide) (fun c_23 => ?_) (fun c_23 => ?_)
    · replace hf := if_f c_23 hf
      refine go_aload_n hC dX12_best_21 rfl 0 rfl ?_
      refine go_geti hC (j := 2) (idx := 167) (nm := "boxAt") (ds := "I") (b_43 _) rfl rfl hn12 (Nat.le_of_ble_eq_true rfl) rfl rfl (List.mem_cons_of_mem _ (List.mem_append_left _ (List.mem_append_left _ (List.mem_of_getElem? (i := 1) rfl)))) (Or.inl rfl) dX12_best_22 ?_
      obtain ⟨x4_2, ex4_2, hf⟩ := lt_e hf
      refine go_topi ex4_2 ?_
      refine go_istore hC dX12_best_25 (Nat.le_of_ble_eq_true rfl) rfl ?_
      refine go_bipush hC dX12_best_27 k8_m9 ?_
      refine go_istore hC dX12_best_29 (Nat.le_of_ble_eq_true rfl) rfl ?_
      refine go_ldc hC (v := 10000000) (List.mem_cons_of_mem _ (List.mem_append_left _ (List.mem_append_left _ (List.mem_of_getElem? (i := 2) rfl)))) dX12_best_31 ?_
      refine go_istore hC dX12_best_33 (Nat.le_of_ble_eq_true rfl) rfl ?_
      refine go_iconst hC dX12_best_35 k1_0 ?_
      refine go_istore hC dX12_best_36 (Nat.le_of_ble_eq_true rfl) rfl ?_
      obtain ⟨s_21, hl, hf⟩ := bd_e1 hf
      refine go_sub [4, 5, 6, 7, 3, 2, 1, 0] rfl ?_
      refine lw_X12_best_38 hC x1 x2 x3 x4_2 _ (-9) 10000000 0 h s_21 hl ?_
      refine go_aload_n hC dX12_best_95 rfl 0 rfl ?_
      refine go_iload hC dX12_best_96 1 rfl ?_
      obtain ⟨h_22, eh_22, hf⟩ := lt_e hf
      refine go_puti hC tyX12 (j := 2) (idx := 167) (nm := "boxAt") (ds := "I") (b_43 _) rfl rfl hn12 tyX12_ok nmX12 (Nat.le_of_ble_eq_true rfl) rfl rfl (List.mem_cons_of_mem _ (List.mem_append_left _ (List.mem_append_left _ (List.mem_of_getElem? (i := 1) rfl)))) (Or.inl rfl) rfl (tyX12_ok _ (Nat.le_of_ble_eq_true rfl)) dX12_best_98 ?_
      refine go_toph eh_22 ?_
      refine go_iload hC dX12_best_101 2 rfl ?_
      obtain ⟨rfl, rfl⟩ := so_2 hf
      exact hret _ _ rfl dX12_best_103
    · replace hf := if_t c_23 hf
      refine go_bipush hC dX12_best_18 k8_m3 ?_
      obtain ⟨rfl, rfl⟩ := so_2 hf
      exact hret _ _ rfl dX12_best_20
  · replace hf := if_t c_24 hf
    refine go_bipush hC dX12_best_8 k8_m2 ?_
    obtain ⟨rfl, rfl⟩ := so_2 hf
    exact hret _ _ rfl dX12_best_10
def f_X12_costs (x1 : Int32) (x2 : Int32) (x3 : Int32) (x4 : Int32) (h : PH) : Option (Int32 × PH) :=
  bd_1 (f_X12_noRun x1 h) fun r_1 =>
  if r_1 = 0 then (
  bd_1 (f_X12_isPlan x2 x3 h) fun r_2 =>
  if r_2 = 0 then (
  some ((-2), h))
  else (
  if (h.1 43 19) = 0 then (
  some ((-3), h))
  else (
  bd_2 (f_X12_layPlan x2 x3 x4 h) fun r_3 h_4 =>
  lt_b (h_4.1 43 34) fun x5_5 =>
  ga_i x1 14 (
  lt_b (h_4.1 48 x1.toNatClampNeg) fun x6_7 =>
  ga_i x1 14 (
  lt_b (ph_i h_4 48 x1.toNatClampNeg 1) fun h_9 =>
  bd_2 (f_X12_layFar h_9) fun r_10 h_11 =>
  bd_2 (f_X12_layPlan x2 x3 x4 h_11) fun r_12 h_13 =>
  ga_i x1 14 (
  gb_i x6_7 (
  lt_b (ph_i h_13 48 x1.toNatClampNeg x6_7) fun h_15 =>
  bd_2 (f_X12_layFar h_15) fun r_17 h_18 =>
  if 10000000 ≤ x5_5 then (
  some ((-9), h_18))
  else (
  if (h_18.1 43 34) < 10000000 then (
  some ((h_18.1 43 34) - x5_5, h_18))
  else (
  some ((-9), h_18))))))))))
  else (
  some ((-1), h))
theorem e_X12_costs : yX12_costs.cls = RX12 ∧ yX12_costs.cls ≠ "java/lang/invoke/MethodHandle" ∧ yX12_costs.cls ≠ "java/lang/invoke/VarHandle" ∧ (parseMethodDescriptor yX12_costs.desc).map (fun d => d.parameters.length) = some 4 := by decide +kernel
set_option maxRecDepth 100000 in
set_option maxHeartbeats 4000000 in
theorem c_X12_costs (x1 : Int32) (x2 : Int32) (x3 : Int32) (x4 : Int32) (h : PH) (h2 : PH) (r : Int32) (hf : f_X12_costs x1 x2 x3 x4 h = some (r, h2)) : Con yX12_costs wsX12_costs (rm_d 4) l0_B [.ref 43, .int x1, .int x2, .int x3, .int x4] h (some (.int r)) h2 := by
  have hn12 : ∀ w ∈ wsX120, w ∈ wsX12_costs := (fun _ hw => (List.mem_cons_of_mem _ (List.mem_append_right _ hw)))
  refine con_i (ty := .int) (cc := cX12_costs) (nL := 7) (by decide) rfl (Nat.le_of_ble_eq_true rfl) ?_
  intro C hC hret
  change Go l0_B C 0 0 0 [(0, .ref 43), (1, .int x1), (2, .int x2), (3, .int x3), (4, .int x4)] [] h
  unfold f_X12_costs at hf
  refine go_aload_n hC dX12_costs_0 rfl 0 rfl ?_
  refine go_iload_n hC dX12_costs_1 rfl 1 rfl ?_
  obtain ⟨r_1, hc, hf⟩ := bd_e1 hf
  refine go_callV hC (c_X12_noRun x1 h r_1 hc) gX12_costs_X12_noRun rfl ⟨rfl, rfl⟩ 1 e_X12_noRun ⟨Nat.le_of_ble_eq_true rfl, Nat.le_of_ble_eq_true rfl⟩ (b_43 _) rfl rfl (st := []) (st1 := [.int r_1]) rfl rfl (Nat.le_of_ble_eq_true rfl) ⟨Nat.zero_le _, Nat.zero_le _⟩ dX12_costs_2 ?_
  refine go_if_eq hC dX12_costs_5 (tgt := 10) (by decide) (fun c_23 => ?_) (fun c_23 => ?_)
  · replace hf := if_t c_23 hf
    refine go_iload_n hC dX12_costs_10 rfl 2 rfl ?_
    refine go_iload_n hC dX12_costs_11 rfl 3 rfl ?_
    obtain ⟨r_2, hc, hf⟩ := bd_e1 hf
    refine go_callS hC (c_X12_isPlan x2 x3 h r_2 hc) gX12_costs_X12_isPlan rfl ⟨rfl, rfl⟩ 2 e_X12_isPlan ⟨Nat.le_of_ble_eq_true rfl, Nat.le_of_ble_eq_true rfl⟩ rfl (st := []) (st1 := [.int r_2]) rfl rfl (Nat.le_of_ble_eq_true rfl) ⟨Nat.zero_le _, Nat.zero_le _⟩ dX12_costs_12 ?_
    refine go_if_ne hC dX12_costs_15 (tgt := 21) (by decide) (fun c_22 => ?_) (fun c_22 => ?_)
    · replace hf := if_f c_22 hf
      refine go_aload_n hC dX12_costs_21 rfl 0 rfl ?_
      refine go_geti hC (j := 19) (idx := 170) (nm := "points") (ds := "I") (b_43 _) rfl rfl hn12 (Nat.le_of_ble_eq_true rfl) rfl rfl (List.mem_cons_of_mem _ (List.mem_append_left _ (List.mem_append_left _ (List.mem_of_getElem? (i := 0) rfl)))) (Or.inl rfl) dX12_costs_22 ?_
      refine go_if_ne hC dX12_costs_25 (tgt := 31) (by decide) (fun c_21 => ?_) (fun c_21 => ?_)
      · replace hf := if_f c_21 hf
        refine go_aload_n hC dX12_costs_31 rfl 0 rfl ?_
        refine go_iload_n hC dX12_costs_32 rfl 2 rfl ?_
        refine go_iload_n hC dX12_costs_33 rfl 3 rfl ?_
        refine go_iload hC dX12_costs_34 4 rfl ?_
        obtain ⟨r_3, h_4, hc, hf⟩ := bd_e2 hf
        refine go_callV hC (c_X12_layPlan x2 x3 x4 h h_4 hc) gX12_costs_X12_layPlan rfl ⟨rfl, rfl⟩ 3 e_X12_layPlan ⟨Nat.le_of_ble_eq_true rfl, Nat.le_of_ble_eq_true rfl⟩ (b_43 _) rfl rfl (st := []) (st1 := []) rfl rfl (Nat.le_of_ble_eq_true rfl) ⟨Nat.zero_le _, Nat.zero_le _⟩ dX12_costs_36 ?_
        refine go_aload_n hC dX12_costs_39 rfl 0 rfl ?_
        refine go_geti hC (j := 34) (idx := 285) (nm := "bestCable") (ds := "I") (b_43 _) rfl rfl hn12 (Nat.le_of_ble_eq_true rfl) rfl rfl (List.mem_cons_of_mem _ (List.mem_append_left _ (List.mem_append_left _ (List.mem_of_getElem? (i := 1) rfl)))) (Or.inl rfl) dX12_costs_40 ?_
        obtain ⟨x5_5, ex5_5, hf⟩ := lt_e hf
        refine go_topi ex5_5 ?_
        refine go_istore hC dX12_costs_43 (Nat.le_of_ble_eq_true rfl) rfl ?_
        refine go_aload_n hC dX12_costs_45 rfl 1 rfl ?_
        refine go_getr hC (j := 8) (idx := 22) (nm := "isShut") (ds := "[Z") (b_43 _) rfl rfl hn12 (Nat.le_of_ble_eq_true rfl) rfl rfl (List.mem_cons_of_mem _ (List.mem_append_left _ (List.mem_append_left _ (List.mem_of_getElem? (i := 2) rfl)))) (Or.inl rfl) dX12_costs_46 ?_
        refine go_iload_n hC dX12_costs_49 rfl 2 rfl ?_
        obtain ⟨g_6, hf⟩ := ga_e hf
        refine go_zald hC (b_48 _) g_6 dX12_costs_50 ?_
        obtain ⟨x6_7, ex6_7, hf⟩ := lt_e hf
        refine go_topi ex6_7 ?_
        refine go_istore hC dX12_costs_51 (Nat.le_of_ble_eq_true rfl) rfl ?_
        refine go_aload_n hC dX12_costs_53 rfl 2 rfl ?_
        refine go_getr hC (j := 8) (idx := 22) (nm := "isShut") (ds := "[Z") (b_43 _) rfl rfl hn12 (Nat.le_of_ble_eq_true rfl) rfl rfl (List.mem_cons_of_mem _ (List.mem_append_left _ (List.mem_append_left _ (List.mem_of_getElem? (i := 2) rfl)))) (Or.inl rfl) dX12_costs_54 ?_
        refine go_iload_n hC dX12_costs_57 rfl 3 rfl ?_
        refine go_iconst hC dX12_costs_58 k1_1 ?_
        obtain ⟨g_8, hf⟩ := ga_e hf
        obtain ⟨h_9, eh_9, hf⟩ := lt_e hf
        refine go_zast hC (b_48 _) g_8 (Or.inr rfl) dX12_costs_59 ?_
        refine go_toph eh_9 ?_
        refine go_aload_n hC dX12_costs_60 rfl 2 rfl ?_
        obtain ⟨r_10, h_11, hc, hf⟩ := bd_e2 hf
        refine go_callV hC (c_X12_layFar h_9 h_11 hc) gX12_costs_X12_layFar rfl ⟨rfl, rfl⟩ 0 e_X12_layFar ⟨Nat.le_of_ble_eq_true rfl, Nat.le_of_ble_eq_true rfl⟩ (b_43 _) rfl rfl (st := []) (st1 := []) rfl rfl (Nat.le_of_ble_eq_true rfl) ⟨Nat.zero_le _, Nat.zero_le _⟩ dX12_costs_61 ?_
        refine go_aload_n hC dX12_costs_64 rfl 2 rfl ?_
        refine go_iload_n hC dX12_costs_65 rfl 4 rfl ?_
        refine go_iload_n hC dX12_costs_66 rfl 5 rfl ?_
        refine go_iload hC dX12_costs_67 6 rfl ?_
        obtain ⟨r_12, h_13, hc, hf⟩ := bd_e2 hf
        refine go_callV hC (c_X12_layPlan x2 x3 x4 h_11 h_13 hc) gX12_costs_X12_layPlan rfl ⟨rfl, rfl⟩ 3 e_X12_layPlan ⟨Nat.le_of_ble_eq_true rfl, Nat.le_of_ble_eq_true rfl⟩ (b_43 _) rfl rfl (st := []) (st1 := []) rfl rfl (Nat.le_of_ble_eq_true rfl) ⟨Nat.zero_le _, Nat.zero_le _⟩ dX12_costs_69 ?_
        refine go_aload_n hC dX12_costs_72 rfl 2 rfl ?_
        refine go_getr hC (j := 8) (idx := 22) (nm := "isShut") (ds := "[Z") (b_43 _) rfl rfl hn12 (Nat.le_of_ble_eq_true rfl) rfl rfl (List.mem_cons_of_mem _ (List.mem_append_left _ (List.mem_append_left _ (List.mem_of_getElem? (i := 2) rfl)))) (Or.inl rfl) dX12_costs_73 ?_
        refine go_iload_n hC dX12_costs_76 rfl 3 rfl ?_
        refine go_iload hC dX12_costs_77 0 rfl ?_
        obtain ⟨g_14, hf⟩ := ga_e hf
        obtain ⟨g_16, hf⟩ := gb_e hf
        obtain ⟨h_15, eh_15, hf⟩ := lt_e hf
        refine go_zast hC (b_48 _) g_14 g_16 dX12_costs_79 ?_
        refine go_toph eh_15 ?_
        refine go_aload_n hC dX12_costs_80 rfl 2 rfl ?_
        obtain ⟨r_17, h_18, hc, hf⟩ := bd_e2 hf
        refine go_callV hC (c_X12_layFar h_15 h_18 hc) gX12_costs_X12_layFar rfl ⟨rfl, rfl⟩ 0 e_X12_layFar ⟨Nat.le_of_ble_eq_true rfl, Nat.le_of_ble_eq_true rfl⟩ (b_43 _) rfl rfl (st := []) (st1 := []) rfl rfl (Nat.le_of_ble_eq_true rfl) ⟨Nat.zero_le _, Nat.zero_le _⟩ dX12_costs_81 ?_
        refine go_iload hC dX12_costs_84 1 rfl ?_
        refine go_ldc hC (v := 10000000) (List.mem_cons_of_mem _ (List.mem_append_left _ (List.mem_append_left _ (List.mem_of_getElem? (i := 3) rfl)))) dX12_costs_86 ?_
        refine go_icmp_ge hC dX12_costs_88 (tgt := 100) (by decide) (fun c_20 => ?_) (fun c_20 => ?_)
        · replace hf := if_t c_20 hf
          refine go_bipush hC dX12_costs_100 k8_m9 ?_
          refine go_goto hC dX12_costs_102 (tgt := 112) (by decide) ?_
          obtain ⟨rfl, rfl⟩ := so_2 hf
          exact hret _ _ rfl dX12_costs_112
        · replace hf := if_f c_20 hf
          refine go_aload_n hC dX12_costs_91 rfl 2 rfl ?_
          refine go_geti hC (j := 34) (idx := 285) (nm := "bestCable") (ds := "I") (b_43 _) rfl rfl hn12 (Nat.le_of_ble_eq_true rfl) rfl rfl (List.mem_cons_of_mem _ (List.mem_append_left _ (List.mem_append_left _ (List.mem_of_getElem? (i := 1) rfl)))) (Or.inl rfl) dX12_costs_92 ?_
          refine go_ldc hC (v := 10000000) (List.mem_cons_of_mem _ (List.mem_append_left _ (List.mem_append_left _ (List.mem_of_getElem? (i := 3) rfl)))) dX12_costs_95 ?_
          refine go_icmp_lt hC dX12_costs_97 (tgt := 105) (by decide) (fun c_19 => ?_) (fun c_19 => ?_)
          · replace hf := if_t c_19 hf
            refine go_aload_n hC dX12_costs_105 rfl 2 rfl ?_
            refine go_geti hC (j := 34) (idx := 285) (nm := "bestCable") (ds := "I") (b_43 _) rfl rfl hn12 (Nat.le_of_ble_eq_true rfl) rfl rfl (List.mem_cons_of_mem _ (List.mem_append_left _ (List.mem_append_left _ (List.mem_of_getElem? (i := 1) rfl)))) (Or.inl rfl) dX12_costs_106 ?_
            refine go_iload hC dX12_costs_109 1 rfl ?_
            refine go_isub hC dX12_costs_111 ?_
            obtain ⟨rfl, rfl⟩ := so_2 hf
            exact hret _ _ rfl dX12_costs_112
          · replace hf := if_f c_19 hf
            refine go_bipush hC dX12_costs_100 k8_m9 ?_
            refine go_goto hC dX12_costs_102 (tgt := 112) (by decide) ?_
            obtain ⟨rfl, rfl⟩ := so_2 hf
            exact hret _ _ rfl dX12_costs_112
      · replace hf := if_t c_21 hf
        refine go_bipush hC dX12_costs_28 k8_m3 ?_
        obtain ⟨rfl, rfl⟩ := so_2 hf
        exact hret _ _ rfl dX12_costs_30
    · replace hf := if_t c_22 hf
      refine go_bipush hC dX12_costs_18 k8_m2 ?_
      obtain ⟨rfl, rfl⟩ := so_2 hf
      exact hret _ _ rfl dX12_costs_20
  · replace hf := if_f c_23 hf
    refine go_iconst hC dX12_costs_8 k1_m1 ?_
    obtain ⟨rfl, rfl⟩ := so_2 hf
    exact hret _ _ rfl dX12_costs_9
def lb_X12_doorIn_7 (x2 : Int32) (h : PH) (x3 : Int32) (x4 : Int32) : Option ((Int32 × Int32) ⊕ (Int32 × Int32)) :=
  if x4 ≤ x2 then (
  some (.inr (x3, x4)))
  else (
  lt_b (x3 / 8) fun x3_5 =>
  lt_b (x4 + (-1)) fun x4_6 =>
  some (.inl (x3_5, x4_6)))
def f_X12_doorIn (x0 : Int32) (x1 : Int32) (x2 : Int32) (h : PH) : Option (Int32) :=
  lt_b (x1 - 1) fun x4_1 =>
  bd_1 (lp_f (fun s => lb_X12_doorIn_7 x2 h s.1 s.2) fu_l (x0, x4_1)) fun s_8 =>
  some (s_8.1 - s_8.1 / 8 * 8)
set_option maxRecDepth 100000 in
set_option maxHeartbeats 4000000 in
theorem lw_X12_doorIn_7 {C : GC} (hC : Cx C cX12_doorIn 5 wsX12_doorIn RX12 (some .int) (rm_d 0)) (x2 : Int32) (h : PH) : ∀ (n9 : Nat) (x3 : Int32) (x4 : Int32) (y : Int32 × Int32), lp_f (fun s => lb_X12_doorIn_7 x2 h s.1 s.2) n9 (x3, x4) = some y → ∀ (hk : Go l0_B C 0 0 24 [(3, .int y.1)] [] h), Go l0_B C 0 0 7 [(2, .int x2), (3, .int x3), (4, .int x4)] [] h := by

  intro n9
  induction n9 with
  | zero =>
    intro x3 x4 y hlp
    cases hlp
  | succ n9 ih =>
    intro x3 x4 y hlp hk
    obtain ⟨k9, z, hk9, hf, hy⟩ := lp_e hlp
    cases hk9
    replace hf : lb_X12_doorIn_7 x2 h x3 x4 = some z := hf
    unfold lb_X12_doorIn_7 at hf
    refine go_iload hC dX12_doorIn_7 2 rfl ?_
    refine go_iload_n hC dX12_doorIn_9 rfl 0 rfl ?_
    refine go_icmp_le hC dX12_doorIn_10 (tgt := 24) (by decide) (fun c_7 => ?_) (fun c_7 => ?_)
    · replace hf := if_t c_7 hf
      obtain rfl := so_1 hf
      obtain rfl := lp_x hy
      refine go_sub [1] rfl ?_
      exact hk
    · replace hf := if_f c_7 hf
      refine go_iload_n hC dX12_doorIn_13 rfl 1 rfl ?_
      refine go_bipush hC dX12_doorIn_14 k8_8 ?_
      refine go_idiv hC dX12_doorIn_16 (by decide) ?_
      obtain ⟨x3_5, ex3_5, hf⟩ := lt_e hf
      refine go_topi ex3_5 ?_
      refine go_istore_n hC dX12_doorIn_17 rfl (Nat.le_of_ble_eq_true rfl) rfl ?_
      obtain ⟨x4_6, ex4_6, hf⟩ := lt_e hf
      refine go_iinc hC dX12_doorIn_18 2 rfl k1_m1 ex4_6 (Nat.le_of_ble_eq_true rfl) rfl ?_
      refine go_goto hC dX12_doorIn_21 (tgt := 7) (by decide) ?_
      obtain rfl := so_1 hf
      refine go_sub [2, 1, 0] rfl ?_
      exact ih x3_5 x4_6 _ (lp_c hy) hk
theorem e_X12_doorIn : yX12_doorIn.cls ≠ "java/lang/invoke/MethodHandle" ∧ yX12_doorIn.cls ≠ "java/lang/invoke/VarHandle" ∧ (parseMethodDescriptor yX12_doorIn.desc).map (fun d => d.parameters.length) = some 3 := by decide +kernel
set_option maxRecDepth 100000 in
set_option maxHeartbeats 4000000 in
theorem c_X12_doorIn (x0 : Int32) (x1 : Int32) (x2 : Int32) (h : PH) (r : Int32) (hf : f_X12_doorIn x0 x1 x2 h = some r) : Con yX12_doorIn wsX12_doorIn (rm_d 0) l0_B [.int x0, .int x1, .int x2] h (some (.int r)) h := by

  refine con_i (ty := .int) (cc := cX12_doorIn) (nL := 5) (by decide) rfl (Nat.le_of_ble_eq_true rfl) ?_
  intro C hC hret
  change Go l0_B C 0 0 0 [(0, .int x0), (1, .int x1), (2, .int x2)] [] h
  unfold f_X12_doorIn at hf
  refine go_iload_n hC dX12_doorIn_0 rfl 0 rfl ?_
  refine go_istore_n hC dX12_doorIn_1 rfl (Nat.le_of_ble_eq_true rfl) rfl ?_
  refine go_iload_n hC dX12_doorIn_2 rfl 2 rfl ?_
  refine go_iconst hC dX12_doorIn_3 k1_1 ?_
  refine go_isub hC dX12_doorIn_4 ?_
  obtain ⟨x4_1, ex4_1, hf⟩ := lt_e hf
  refine go_topi ex4_1 ?_
  refine go_istore hC dX12_doorIn_5 (Nat.le_of_ble_eq_true rfl) rfl ?_
  obtain ⟨s_8, hl, hf⟩ := bd_e1 hf
  refine go_sub [4, 1, 0] rfl ?_
  refine lw_X12_doorIn_7 hC x2 h _ x0 x4_1 s_8 hl ?_
  refine go_iload_n hC dX12_doorIn_24 rfl 0 rfl ?_
  refine go_bipush hC dX12_doorIn_25 k8_8 ?_
  refine go_irem hC dX12_doorIn_27 (by decide) ?_
  obtain rfl := so_1 hf
  exact hret _ _ rfl dX12_doorIn_28
def lb_X12_bits_4 (x0 : Int32) (h : PH) (x1 : Int32) (x2 : Int32) : Option ((Int32 × Int32) ⊕ (Int32 × Int32)) :=
  if 8 ≤ x2 then (
  some (.inr (x1, x2)))
  else (
  lt_b (x1 + ((x0 >>> (x2 &&& 31)) &&& 1)) fun x1_4 =>
  lt_b (x2 + 1) fun x2_5 =>
  some (.inl (x1_4, x2_5)))
def f_X12_bits (x0 : Int32) (h : PH) : Option (Int32) :=
  bd_1 (lp_f (fun s => lb_X12_bits_4 x0 h s.1 s.2) fu_l (0, 0)) fun s_7 =>
  some s_7.1
set_option maxRecDepth 100000 in
set_option maxHeartbeats 4000000 in
theorem lw_X12_bits_4 {C : GC} (hC : Cx C cX12_bits 3 wsX12_bits RX12 (some .int) (rm_d 0)) (x0 : Int32) (h : PH) : ∀ (n9 : Nat) (x1 : Int32) (x2 : Int32) (y : Int32 × Int32), lp_f (fun s => lb_X12_bits_4 x0 h s.1 s.2) n9 (x1, x2) = some y → ∀ (hk : Go l0_B C 0 0 24 [(1, .int y.1)] [] h), Go l0_B C 0 0 4 [(0, .int x0), (1, .int x1), (2, .int x2)] [] h := by

  intro n9
  induction n9 with
  | zero =>
    intro x1 x2 y hlp
    cases hlp
  | succ n9 ih =>
    intro x1 x2 y hlp hk
    obtain ⟨k9, z, hk9, hf, hy⟩ := lp_e hlp
    cases hk9
    replace hf : lb_X12_bits_4 x0 h x1 x2 = some z := hf
    unfold lb_X12_bits_4 at hf
    refine go_iload_n hC dX12_bits_4 rfl 2 rfl ?_
    refine go_bipush hC dX12_bits_5 k8_8 ?_
    refine go_icmp_ge hC dX12_bits_7 (tgt := 24) (by decide) (fun c_6 => ?_) (fun c_6 => ?_)
    · replace hf := if_t c_6 hf
      obtain rfl := so_1 hf
      obtain rfl := lp_x hy
      refine go_sub [1] rfl ?_
      exact hk
    · replace hf := if_f c_6 hf
      refine go_iload_n hC dX12_bits_10 rfl 1 rfl ?_
      refine go_iload_n hC dX12_bits_11 rfl 0 rfl ?_
      refine go_iload_n hC dX12_bits_12 rfl 2 rfl ?_
      refine go_ishr hC dX12_bits_13 ?_
      refine go_iconst hC dX12_bits_14 k1_1 ?_
      refine go_iand hC dX12_bits_15 ?_
      refine go_iadd hC dX12_bits_16 ?_
      obtain ⟨x1_4, ex1_4, hf⟩ := lt_e hf
      refine go_topi ex1_4 ?_
      refine go_istore_n hC dX12_bits_17 rfl (Nat.le_of_ble_eq_true rfl) rfl ?_
      obtain ⟨x2_5, ex2_5, hf⟩ := lt_e hf
      refine go_iinc hC dX12_bits_18 2 rfl k1_1 ex2_5 (Nat.le_of_ble_eq_true rfl) rfl ?_
      refine go_goto hC dX12_bits_21 (tgt := 4) (by decide) ?_
      obtain rfl := so_1 hf
      refine go_sub [2, 1, 0] rfl ?_
      exact ih x1_4 x2_5 _ (lp_c hy) hk
theorem e_X12_bits : yX12_bits.cls ≠ "java/lang/invoke/MethodHandle" ∧ yX12_bits.cls ≠ "java/lang/invoke/VarHandle" ∧ (parseMethodDescriptor yX12_bits.desc).map (fun d => d.parameters.length) = some 1 := by decide +kernel
set_option maxRecDepth 100000 in
set_option maxHeartbeats 4000000 in
theorem c_X12_bits (x0 : Int32) (h : PH) (r : Int32) (hf : f_X12_bits x0 h = some r) : Con yX12_bits wsX12_bits (rm_d 0) l0_B [.int x0] h (some (.int r)) h := by

  refine con_i (ty := .int) (cc := cX12_bits) (nL := 3) (by decide) rfl (Nat.le_of_ble_eq_true rfl) ?_
  intro C hC hret
  change Go l0_B C 0 0 0 [(0, .int x0)] [] h
  unfold f_X12_bits at hf
  refine go_iconst hC dX12_bits_0 k1_0 ?_
  refine go_istore_n hC dX12_bits_1 rfl (Nat.le_of_ble_eq_true rfl) rfl ?_
  refine go_iconst hC dX12_bits_2 k1_0 ?_
  refine go_istore_n hC dX12_bits_3 rfl (Nat.le_of_ble_eq_true rfl) rfl ?_
  obtain ⟨s_7, hl, hf⟩ := bd_e1 hf
  refine go_sub [2, 1, 0] rfl ?_
  refine lw_X12_bits_4 hC x0 h _ 0 0 s_7 hl ?_
  refine go_iload_n hC dX12_bits_24 rfl 0 rfl ?_
  obtain rfl := so_1 hf
  exact hret _ _ rfl dX12_bits_25
def lb_X12_coresOf_40 (x1 : Int32) (x2 : Int32) (x3 : Int32) (h : PH) (x4 : Int32) (x5 : Int32) (x6 : Int32) (x7 : Int32) : Option ((Int32 × Int32 × Int32 × Int32) ⊕ (Int32 × Int32 × Int32 × Int32)) :=
  if x3 ≤ x7 then (
  some (.inr (x4, x5, x6, x7)))
  else (
  bd_1 (f_X12_doorIn x2 x3 x7 h) fun r_28 =>
  if x6 = 0 then (
  ga_i ((8 * x5) + r_28) 64 (
  if x7 = 0 then (
  lt_b (x4 + (((h.1 53 ((8 * x5) + r_28).toNatClampNeg) / 1000) * 1)) fun x4_32 =>
  lt_b (x7 + 1) fun x7_33 =>
  some (.inl (x4_32, r_28, 0, x7_33)))
  else (
  lt_b (x4 + (((h.1 53 ((8 * x5) + r_28).toNatClampNeg) / 1000) * 2)) fun x4_30 =>
  lt_b (x7 + 1) fun x7_31 =>
  some (.inl (x4_30, r_28, 0, x7_31)))))
  else (
  bd_1 (f_X12_isThere x5 r_28 h) fun r_35 =>
  if r_35 = 0 then (
  ga_i ((8 * x5) + r_28) 64 (
  if x7 = 0 then (
  lt_b (x4 + (((h.1 53 ((8 * x5) + r_28).toNatClampNeg) / 1000) * 1)) fun x4_39 =>
  lt_b (x7 + 1) fun x7_40 =>
  some (.inl (x4_39, r_28, 0, x7_40)))
  else (
  lt_b (x4 + (((h.1 53 ((8 * x5) + r_28).toNatClampNeg) / 1000) * 2)) fun x4_37 =>
  lt_b (x7 + 1) fun x7_38 =>
  some (.inl (x4_37, r_28, 0, x7_38)))))
  else (
  ga_i ((8 * x5) + r_28) 64 (
  if x7 = 0 then (
  lt_b (x4 + (((h.1 53 ((8 * x5) + r_28).toNatClampNeg) / 1000) * 1)) fun x4_45 =>
  lt_b (x7 + 1) fun x7_46 =>
  some (.inl (x4_45, r_28, 1, x7_46)))
  else (
  lt_b (x4 + (((h.1 53 ((8 * x5) + r_28).toNatClampNeg) / 1000) * 2)) fun x4_43 =>
  lt_b (x7 + 1) fun x7_44 =>
  some (.inl (x4_43, r_28, 1, x7_44)))))))
def f_X12_coresOf (x1 : Int32) (x2 : Int32) (x3 : Int32) (h : PH) : Option (Int32) :=
  ga_i ((8 * (h.1 43 2)) + x1) 64 (
  lt_b ((h.1 53 ((8 * (h.1 43 2)) + x1).toNatClampNeg) / 1000) fun x4_2 =>
  lt_b (h.1 43 2) fun x5_3 =>
  bd_1 (f_X12_isThere (h.1 43 2) x1 h) fun r_4 =>
  bd_1 (lp_f (fun s => lb_X12_coresOf_40 x1 x2 x3 h s.1 s.2.1 s.2.2.1 s.2.2.2) fu_l (x4_2, x5_3, r_4, 0)) fun s_51 =>
  if s_51.2.2.1 = 0 then (
  some 10000000)
  else (
  bd_1 (f_X12_isThere s_51.2.1 x1 h) fun r_52 =>
  if r_52 = 0 then (
  some 10000000)
  else (
  ga_i ((8 * s_51.2.1) + x1) 64 (
  some (s_51.1 + ((h.1 53 ((8 * s_51.2.1) + x1).toNatClampNeg) / 1000))))))
set_option maxRecDepth 100000 in
set_option maxHeartbeats 4000000 in
theorem lw_X12_coresOf_40 {C : GC} (hC : Cx C cX12_coresOf 9 wsX12_coresOf RX12 (some .int) (rm_d 1)) (x1 : Int32) (x2 : Int32) (x3 : Int32) (h : PH) : ∀ (n9 : Nat) (x4 : Int32) (x5 : Int32) (x6 : Int32) (x7 : Int32) (y : Int32 × Int32 × Int32 × Int32), lp_f (fun s => lb_X12_coresOf_40 x1 x2 x3 h s.1 s.2.1 s.2.2.1 s.2.2.2) n9 (x4, x5, x6, x7) = some y → ∀ (hk : Go l0_B C 0 0 121 [(0, .ref 43), (1, .int x1), (4, .int y.1), (5, .int y.2.1), (6, .int y.2.2.1)] [] h), Go l0_B C 0 0 40 [(0, .ref 43), (1, .int x1), (2, .int x2), (3, .int x3), (4, .int x4), (5, .int x5), (6, .int x6), (7, .int x7)] [] h := by
  have hn12 : ∀ w ∈ wsX120, w ∈ wsX12_coresOf := (fun _ hw => (List.mem_cons_of_mem _ (List.mem_append_right _ hw)))
  intro n9
  induction n9 with
  | zero =>
    intro x4 x5 x6 x7 y hlp
    cases hlp
  | succ n9 ih =>
    intro x4 x5 x6 x7 y hlp hk
    obtain ⟨k9, z, hk9, hf, hy⟩ := lp_e hlp
    cases hk9
    replace hf : lb_X12_coresOf_40 x1 x2 x3 h x4 x5 x6 x7 = some z := hf
    unfold lb_X12_coresOf_40 at hf
    refine go_iload hC dX12_coresOf_40 7 rfl ?_
    refine go_iload_n hC dX12_coresOf_42 rfl 3 rfl ?_
    refine go_icmp_ge hC dX12_coresOf_43 (tgt := 121) (by decide) (fun c_50 => ?_) (fun c_50 => ?_)
    · replace hf := if_t c_50 hf
      obtain rfl := so_1 hf
      obtain rfl := lp_x hy
      refine go_sub [0, 1, 4, 5, 6] rfl ?_
      exact hk
    · replace hf := if_f c_50 hf
      refine go_iload_n hC dX12_coresOf_46 rfl 2 rfl ?_
      refine go_iload_n hC dX12_coresOf_47 rfl 3 rfl ?_
      refine go_iload hC dX12_coresOf_48 7 rfl ?_
      obtain ⟨r_28, hc, hf⟩ := bd_e1 hf
      refine go_callS hC (c_X12_doorIn x2 x3 x7 h r_28 hc) gX12_coresOf_X12_doorIn rfl ⟨rfl, rfl⟩ 3 e_X12_doorIn ⟨Nat.le_of_ble_eq_true rfl, Nat.le_of_ble_eq_true rfl⟩ rfl (st := []) (st1 := [.int r_28]) rfl rfl (Nat.le_of_ble_eq_true rfl) ⟨Nat.zero_le _, Nat.zero_le _⟩ dX12_coresOf_50 ?_
      refine go_istore hC dX12_coresOf_53 (Nat.le_of_ble_eq_true rfl) rfl ?_
      refine go_iload hC dX12_coresOf_55 7 rfl ?_
      refine go_if_eq hC dX12_coresOf_57 (tgt := 75) (by decide) (fun c_49 => ?_) (fun c_49 => ?_)
      · replace hf := if_t c_49 hf
        refine go_iconst hC dX12_coresOf_75 k1_0 ?_
        refine go_istore hC dX12_coresOf_76 (Nat.le_of_ble_eq_true rfl) rfl ?_
        refine go_iload hC dX12_coresOf_78 6 rfl ?_
        refine go_aload_n hC dX12_coresOf_80 rfl 2 rfl ?_
        refine go_getr hC (j := 18) (idx := 38) (nm := "far") (ds := "[I") (b_43 _) rfl rfl hn12 (Nat.le_of_ble_eq_true rfl) rfl rfl (List.mem_cons_of_mem _ (List.mem_append_left _ (List.mem_of_getElem? (i := 0) rfl))) (Or.inl rfl) dX12_coresOf_81 ?_
        refine go_bipush hC dX12_coresOf_84 k8_8 ?_
        refine go_iload hC dX12_coresOf_86 7 rfl ?_
        refine go_imul hC dX12_coresOf_88 ?_
        refine go_iload hC dX12_coresOf_89 1 rfl ?_
        refine go_iadd hC dX12_coresOf_91 ?_
        obtain ⟨g_29, hf⟩ := ga_e hf
        refine go_iald hC (b_53 _) g_29 dX12_coresOf_92 ?_
        refine go_sipush hC dX12_coresOf_93 k16_1000 ?_
        refine go_idiv hC dX12_coresOf_96 (by decide) ?_
        refine go_iload hC dX12_coresOf_97 8 rfl ?_
        refine go_if_ne hC dX12_coresOf_99 (tgt := 106) (by decide) (fun c_34 => ?_) (fun c_34 => ?_)
        · replace hf := if_f c_34 hf
          refine go_iconst hC dX12_coresOf_106 k1_2 ?_
          refine go_imul hC dX12_coresOf_107 ?_
          refine go_iadd hC dX12_coresOf_108 ?_
          obtain ⟨x4_30, ex4_30, hf⟩ := lt_e hf
          refine go_topi ex4_30 ?_
          refine go_istore hC dX12_coresOf_109 (Nat.le_of_ble_eq_true rfl) rfl ?_
          refine go_iload hC dX12_coresOf_111 2 rfl ?_
          refine go_istore hC dX12_coresOf_113 (Nat.le_of_ble_eq_true rfl) rfl ?_
          obtain ⟨x7_31, ex7_31, hf⟩ := lt_e hf
          refine go_iinc hC dX12_coresOf_115 8 rfl k1_1 ex7_31 (Nat.le_of_ble_eq_true rfl) rfl ?_
          refine go_goto hC dX12_coresOf_118 (tgt := 40) (by decide) ?_
          obtain rfl := so_1 hf
          refine go_sub [5, 6, 7, 8, 2, 1, 3, 0] rfl ?_
          exact ih x4_30 r_28 0 x7_31 _ (lp_c hy) hk
        · replace hf := if_t c_34 hf
          refine go_iconst hC dX12_coresOf_102 k1_1 ?_
          refine go_goto hC dX12_coresOf_103 (tgt := 107) (by decide) ?_
          refine go_imul hC dX12_coresOf_107 ?_
          refine go_iadd hC dX12_coresOf_108 ?_
          obtain ⟨x4_32, ex4_32, hf⟩ := lt_e hf
          refine go_topi ex4_32 ?_
          refine go_istore hC dX12_coresOf_109 (Nat.le_of_ble_eq_true rfl) rfl ?_
          refine go_iload hC dX12_coresOf_111 2 rfl ?_
          refine go_istore hC dX12_coresOf_113 (Nat.le_of_ble_eq_true rfl) rfl ?_
          obtain ⟨x7_33, ex7_33, hf⟩ := lt_e hf
          refine go_iinc hC dX12_coresOf_115 8 rfl k1_1 ex7_33 (Nat.le_of_ble_eq_true rfl) rfl ?_
          refine go_goto hC dX12_coresOf_118 (tgt := 40) (by decide) ?_
          obtain rfl := so_1 hf
          refine go_sub [5, 6, 7, 8, 2, 1, 3, 0] rfl ?_
          exact ih x4_32 r_28 0 x7_33 _ (lp_c hy) hk
      · replace hf := if_f c_49 hf
        refine go_aload_n hC dX12_coresOf_60 rfl 1 rfl ?_
        refine go_iload hC dX12_coresOf_61 6 rfl ?_
        refine go_iload hC dX12_coresOf_63 0 rfl ?_
        obtain ⟨r_35, hc, hf⟩ := bd_e1 hf
        refine go_callV hC (c_X12_isThere x5 r_28 h r_35 hc) gX12_coresOf_X12_isThere rfl ⟨rfl, rfl⟩ 2 e_X12_isThere ⟨Nat.le_of_ble_eq_true rfl, Nat.le_of_ble_eq_true rfl⟩ (b_43 _) rfl rfl (st := []) (st1 := [.int r_35]) rfl rfl (Nat.le_of_ble_eq_true rfl) ⟨Nat.zero_le _, Nat.zero_le _⟩ dX12_coresOf_65 ?_
        refine go_if_eq hC dX12_coresOf_68 (tgt := 75) (by decide) (fun c_48 => ?_) (fun c_48 => ?_)
        · replace hf := if_t c_48 hf
          refine go_iconst hC dX12_coresOf_75 k1_0 ?_
          refine go_istore hC dX12_coresOf_76 (Nat.le_of_ble_eq_true rfl) rfl ?_
          refine go_iload hC dX12_coresOf_78 6 rfl ?_
          refine go_aload_n hC dX12_coresOf_80 rfl 2 rfl ?_
          refine go_getr hC (j := 18) (idx := 38) (nm := "far") (ds := "[I") (b_43 _) rfl rfl hn12 (Nat.le_of_ble_eq_true rfl) rfl rfl (List.mem_cons_of_mem _ (List.mem_append_left _ (List.mem_of_getElem? (i := 0) rfl))) (Or.inl rfl) dX12_coresOf_81 ?_
          refine go_bipush hC dX12_coresOf_84 k8_8 ?_
          refine go_iload hC dX12_coresOf_86 7 rfl ?_
          refine go_imul hC dX12_coresOf_88 ?_
          refine go_iload hC dX12_coresOf_89 1 rfl ?_
          refine go_iadd hC dX12_coresOf_91 ?_
          obtain ⟨g_36, hf⟩ := ga_e hf
          refine go_iald hC (b_53 _) g_36 dX12_coresOf_92 ?_
          refine go_sipush hC dX12_coresOf_93 k16_1000 ?_
          refine go_idiv hC dX12_coresOf_96 (by decide) ?_
          refine go_iload hC dX12_coresOf_97 8 rfl ?_
          refine go_if_ne hC dX12_coresOf_99 (tgt := 106) (by decide) (fun c_41 => ?_) (fun c_41 => ?_)
          · replace hf := if_f c_41 hf
            refine go_iconst hC dX12_coresOf_106 k1_2 ?_
            refine go_imul hC dX12_coresOf_107 ?_
            refine go_iadd hC dX12_coresOf_108 ?_
            obtain ⟨x4_37, ex4_37, hf⟩ := lt_e hf
            refine go_topi ex4_37 ?_
            refine go_istore hC dX12_coresOf_109 (Nat.le_of_ble_eq_true rfl) rfl ?_
            refine go_iload hC dX12_coresOf_111 2 rfl ?_
            refine go_istore hC dX12_coresOf_113 (Nat.le_of_ble_eq_true rfl) rfl ?_
            obtain ⟨x7_38, ex7_38, hf⟩ := lt_e hf
            refine go_iinc hC dX12_coresOf_115 8 rfl k1_1 ex7_38 (Nat.le_of_ble_eq_true rfl) rfl ?_
            refine go_goto hC dX12_coresOf_118 (tgt := 40) (by decide) ?_
            obtain rfl := so_1 hf
            refine go_sub [5, 6, 7, 8, 2, 1, 3, 0] rfl ?_
            exact ih x4_37 r_28 0 x7_38 _ (lp_c hy) hk
          · replace hf := if_t c_41 hf
            refine go_iconst hC dX12_coresOf_102 k1_1 ?_
            refine go_goto hC dX12_coresOf_103 (tgt := 107) (by decide) ?_
            refine go_imul hC dX12_coresOf_107 ?_
            refine go_iadd hC dX12_coresOf_108 ?_
            obtain ⟨x4_39, ex4_39, hf⟩ := lt_e hf
            refine go_topi ex4_39 ?_
            refine go_istore hC dX12_coresOf_109 (Nat.le_of_ble_eq_true rfl) rfl ?_
            refine go_iload hC dX12_coresOf_111 2 rfl ?_
            refine go_istore hC dX12_coresOf_113 (Nat.le_of_ble_eq_true rfl) rfl ?_
            obtain ⟨x7_40, ex7_40, hf⟩ := lt_e hf
            refine go_iinc hC dX12_coresOf_115 8 rfl k1_1 ex7_40 (Nat.le_of_ble_eq_true rfl) rfl ?_
            refine go_goto hC dX12_coresOf_118 (tgt := 40) (by decide) ?_
            obtain rfl := so_1 hf
            refine go_sub [5, 6, 7, 8, 2, 1, 3, 0] rfl ?_
            exact ih x4_39 r_28 0 x7_40 _ (lp_c hy) hk
        · replace hf := if_f c_48 hf
          refine go_iconst hC dX12_coresOf_71 k1_1 ?_
          refine go_goto hC dX12_coresOf_72 (tgt := 76) (by decide) ?_
          refine go_istore hC dX12_coresOf_76 (Nat.le_of_ble_eq_true rfl) rfl ?_
          refine go_iload hC dX12_coresOf_78 6 rfl ?_
          refine go_aload_n hC dX12_coresOf_80 rfl 2 rfl ?_
          refine go_getr hC (j := 18) (idx := 38) (nm := "far") (ds := "[I") (b_43 _) rfl rfl hn12 (Nat.le_of_ble_eq_true rfl) rfl rfl (List.mem_cons_of_mem _ (List.mem_append_left _ (List.mem_of_getElem? (i := 0) rfl))) (Or.inl rfl) dX12_coresOf_81 ?_
          refine go_bipush hC dX12_coresOf_84 k8_8 ?_
          refine go_iload hC dX12_coresOf_86 7 rfl ?_
          refine go_imul hC dX12_coresOf_88 ?_
          refine go_iload hC dX12_coresOf_89 1 rfl ?_
          refine go_iadd hC dX12_coresOf_91 ?_
          obtain ⟨g_42, hf⟩ := ga_e hf
          refine go_iald hC (b_53 _) g_42 dX12_coresOf_92 ?_
          refine go_sipush hC dX12_coresOf_93 k16_1000 ?_
          refine go_idiv hC dX12_coresOf_96 (by decide) ?_
          refine go_iload hC dX12_coresOf_97 8 rfl ?_
          refine go_if_ne hC dX12_coresOf_99 (tgt := 106) (by decide) (fun c_47 => ?_) (fun c_47 => ?_)
          · replace hf := if_f c_47 hf
            refine go_iconst hC dX12_coresOf_106 k1_2 ?_
            refine go_imul hC dX12_coresOf_107 ?_
            refine go_iadd hC dX12_coresOf_108 ?_
            obtain ⟨x4_43, ex4_43, hf⟩ := lt_e hf
            refine go_topi ex4_43 ?_
            refine go_istore hC dX12_coresOf_109 (Nat.le_of_ble_eq_true rfl) rfl ?_
            refine go_iload hC dX12_coresOf_111 2 rfl ?_
            refine go_istore hC dX12_coresOf_113 (Nat.le_of_ble_eq_true rfl) rfl ?_
            obtain ⟨x7_44, ex7_44, hf⟩ := lt_e hf
            refine go_iinc hC dX12_coresOf_115 8 rfl k1_1 ex7_44 (Nat.le_of_ble_eq_true rfl) rfl ?_
            refine go_goto hC dX12_coresOf_118 (tgt := 40) (by decide) ?_
            obtain rfl := so_1 hf
            refine go_sub [5, 6, 7, 8, 2, 1, 3, 0] rfl ?_
            exact ih x4_43 r_28 1 x7_44 _ (lp_c hy) hk
          · replace hf := if_t c_47 hf
            refine go_iconst hC dX12_coresOf_102 k1_1 ?_
            refine go_goto hC dX12_coresOf_103 (tgt := 107) (by decide) ?_
            refine go_imul hC dX12_coresOf_107 ?_
            refine go_iadd hC dX12_coresOf_108 ?_
            obtain ⟨x4_45, ex4_45, hf⟩ := lt_e hf
            refine go_topi ex4_45 ?_
            refine go_istore hC dX12_coresOf_109 (Nat.le_of_ble_eq_true rfl) rfl ?_
            refine go_iload hC dX12_coresOf_111 2 rfl ?_
            refine go_istore hC dX12_coresOf_113 (Nat.le_of_ble_eq_true rfl) rfl ?_
            obtain ⟨x7_46, ex7_46, hf⟩ := lt_e hf
            refine go_iinc hC dX12_coresOf_115 8 rfl k1_1 ex7_46 (Nat.le_of_ble_eq_true rfl) rfl ?_
            refine go_goto hC dX12_coresOf_118 (tgt := 40) (by decide) ?_
            obtain rfl := so_1 hf
            refine go_sub [5, 6, 7, 8, 2, 1, 3, 0] rfl ?_
            exact ih x4_45 r_28 1 x7_46 _ (lp_c hy) hk
theorem e_X12_coresOf : yX12_coresOf.cls = RX12 ∧ yX12_coresOf.cls ≠ "java/lang/invoke/MethodHandle" ∧ yX12_coresOf.cls ≠ "java/lang/invoke/VarHandle" ∧ (parseMethodDescriptor yX12_coresOf.desc).map (fun d => d.parameters.length) = some 3 := by decide +kernel
set_option maxRecDepth 100000 in
set_option maxHeartbeats 4000000 in
theorem c_X12_coresOf (x1 : Int32) (x2 : Int32) (x3 : Int32) (h : PH) (r : Int32) (hf : f_X12_coresOf x1 x2 x3 h = some r) : Con yX12_coresOf wsX12_coresOf (rm_d 1) l0_B [.ref 43, .int x1, .int x2, .int x3] h (some (.int r)) h := by
  have hn12 : ∀ w ∈ wsX120, w ∈ wsX12_coresOf := (fun _ hw => (List.mem_cons_of_mem _ (List.mem_append_right _ hw)))
  refine con_i (ty := .int) (cc := cX12_coresOf) (nL := 9) (by decide) rfl (Nat.le_of_ble_eq_true rfl) ?_
  intro C hC hret
  change Go l0_B C 0 0 0 [(0, .ref 43), (1, .int x1), (2, .int x2), (3, .int x3)] [] h
  unfold f_X12_coresOf at hf
  refine go_aload_n hC dX12_coresOf_0 rfl 0 rfl ?_
  refine go_getr hC (j := 18) (idx := 38) (nm := "far") (ds := "[I") (b_43 _) rfl rfl hn12 (Nat.le_of_ble_eq_true rfl) rfl rfl (List.mem_cons_of_mem _ (List.mem_append_left _ (List.mem_of_getElem? (i := 0) rfl))) (Or.inl rfl) dX12_coresOf_1 ?_
  refine go_bipush hC dX12_coresOf_4 k8_8 ?_
  refine go_aload_n hC dX12_coresOf_6 rfl 0 rfl ?_
  refine go_geti hC (j := 2) (idx := 167) (nm := "boxAt") (ds := "I") (b_43 _) rfl rfl hn12 (Nat.le_of_ble_eq_true rfl) rfl rfl (List.mem_cons_of_mem _ (List.mem_append_left _ (List.mem_of_getElem? (i := 1) rfl))) (Or.inl rfl) dX12_coresOf_7 ?_
  refine go_imul hC dX12_coresOf_10 ?_
  refine go_iload_n hC dX12_coresOf_11 rfl 1 rfl ?_
  refine go_iadd hC dX12_coresOf_12 ?_
  obtain ⟨g_1, hf⟩ := ga_e hf
  refine go_iald hC (b_53 _) g_1 dX12_coresOf_13 ?_
  refine go_sipush hC dX12_coresOf_14 k16_1000 ?_
  refine go_idiv hC dX12_coresOf_17 (by decide) ?_
  obtain ⟨x4_2, ex4_2, hf⟩ := lt_e hf
  refine go_topi ex4_2 ?_
  refine go_istore hC dX12_coresOf_18 (Nat.le_of_ble_eq_true rfl) rfl ?_
  refine go_aload_n hC dX12_coresOf_20 rfl 1 rfl ?_
  refine go_geti hC (j := 2) (idx := 167) (nm := "boxAt") (ds := "I") (b_43 _) rfl rfl hn12 (Nat.le_of_ble_eq_true rfl) rfl rfl (List.mem_cons_of_mem _ (List.mem_append_left _ (List.mem_of_getElem? (i := 1) rfl))) (Or.inl rfl) dX12_coresOf_21 ?_
  obtain ⟨x5_3, ex5_3, hf⟩ := lt_e hf
  refine go_topi ex5_3 ?_
  refine go_istore hC dX12_coresOf_24 (Nat.le_of_ble_eq_true rfl) rfl ?_
  refine go_aload_n hC dX12_coresOf_26 rfl 2 rfl ?_
  refine go_aload_n hC dX12_coresOf_27 rfl 2 rfl ?_
  refine go_geti hC (j := 2) (idx := 167) (nm := "boxAt") (ds := "I") (b_43 _) rfl rfl hn12 (Nat.le_of_ble_eq_true rfl) rfl rfl (List.mem_cons_of_mem _ (List.mem_append_left _ (List.mem_of_getElem? (i := 1) rfl))) (Or.inl rfl) dX12_coresOf_28 ?_
  refine go_iload_n hC dX12_coresOf_31 rfl 3 rfl ?_
  obtain ⟨r_4, hc, hf⟩ := bd_e1 hf
  refine go_callV hC (c_X12_isThere (h.1 43 2) x1 h r_4 hc) gX12_coresOf_X12_isThere rfl ⟨rfl, rfl⟩ 2 e_X12_isThere ⟨Nat.le_of_ble_eq_true rfl, Nat.le_of_ble_eq_true rfl⟩ (b_43 _) rfl rfl (st := []) (st1 := [.int r_4]) rfl rfl (Nat.le_of_ble_eq_true rfl) ⟨Nat.zero_le _, Nat.zero_le _⟩ dX12_coresOf_32 ?_
  refine go_istore hC dX12_coresOf_35 (Nat.le_of_ble_eq_true rfl) rfl ?_
  refine go_iconst hC dX12_coresOf_37 k1_0 ?_
  refine go_istore hC dX12_coresOf_38 (Nat.le_of_ble_eq_true rfl) rfl ?_
  obtain ⟨s_51, hl, hf⟩ := bd_e1 hf
  refine go_sub [4, 5, 6, 7, 3, 2, 1, 0] rfl ?_
  refine lw_X12_coresOf_40 hC x1 x2 x3 h _ x4_2 x5_3 r_4 0 s_51 hl ?_
  refine go_iload hC dX12_coresOf_121 4 rfl ?_
  refine go_if_eq hC dX12_coresOf_123 (tgt := 158) (by decide) (fun c_55 => ?_) (fun c_55 => ?_)
  · replace hf := if_t c_55 hf
    refine go_ldc hC (v := 10000000) (List.mem_cons_of_mem _ (List.mem_append_left _ (List.mem_of_getElem? (i := 2) rfl))) dX12_coresOf_158 ?_
    obtain rfl := so_1 hf
    exact hret _ _ rfl dX12_coresOf_160
  · replace hf := if_f c_55 hf
    refine go_aload_n hC dX12_coresOf_126 rfl 0 rfl ?_
    refine go_iload hC dX12_coresOf_127 3 rfl ?_
    refine go_iload_n hC dX12_coresOf_129 rfl 1 rfl ?_
    obtain ⟨r_52, hc, hf⟩ := bd_e1 hf
    refine go_callV hC (c_X12_isThere s_51.2.1 x1 h r_52 hc) gX12_coresOf_X12_isThere rfl ⟨rfl, rfl⟩ 2 e_X12_isThere ⟨Nat.le_of_ble_eq_true rfl, Nat.le_of_ble_eq_true rfl⟩ (b_43 _) rfl rfl (st := []) (st1 := [.int r_52]) rfl rfl (Nat.le_of_ble_eq_true rfl) ⟨Nat.zero_le _, Nat.zero_le _⟩ dX12_coresOf_130 ?_
    refine go_if_eq hC dX12_coresOf_133 (tgt := 158) (by decide) (fun c_54 => ?_) (fun c_54 => ?_)
    · replace hf := if_t c_54 hf
      refine go_ldc hC (v := 10000000) (List.mem_cons_of_mem _ (List.mem_append_left _ (List.mem_of_getElem? (i := 2) rfl))) dX12_coresOf_158 ?_
      obtain rfl := so_1 hf
      exact hret _ _ rfl dX12_coresOf_160
    · replace hf := if_f c_54 hf
      refine go_iload hC dX12_coresOf_136 2 rfl ?_
      refine go_aload_n hC dX12_coresOf_138 rfl 0 rfl ?_
      refine go_getr hC (j := 18) (idx := 38) (nm := "far") (ds := "[I") (b_43 _) rfl rfl hn12 (Nat.le_of_ble_eq_true rfl) rfl rfl (List.mem_cons_of_mem _ (List.mem_append_left _ (List.mem_of_getElem? (i := 0) rfl))) (Or.inl rfl) dX12_coresOf_139 ?_
      refine go_bipush hC dX12_coresOf_142 k8_8 ?_
      refine go_iload hC dX12_coresOf_144 3 rfl ?_
      refine go_imul hC dX12_coresOf_146 ?_
      refine go_iload_n hC dX12_coresOf_147 rfl 1 rfl ?_
      refine go_iadd hC dX12_coresOf_148 ?_
      obtain ⟨g_53, hf⟩ := ga_e hf
      refine go_iald hC (b_53 _) g_53 dX12_coresOf_149 ?_
      refine go_sipush hC dX12_coresOf_150 k16_1000 ?_
      refine go_idiv hC dX12_coresOf_153 (by decide) ?_
      refine go_iadd hC dX12_coresOf_154 ?_
      refine go_goto hC dX12_coresOf_155 (tgt := 160) (by decide) ?_
      obtain rfl := so_1 hf
      exact hret _ _ rfl dX12_coresOf_160
def f_X12_noDoors (x1 : Int32) (h : PH) : Option (Int32) :=
  bd_1 (f_X12_in x1.toInt64 1 (((1 : Int64) <<< ((h.1 43 1).toInt64 &&& 63)) - 1) h) fun r_1 =>
  if r_1 = 0 then (
  some 1)
  else (
  bd_1 (f_X12_bits x1 h) fun r_2 =>
  if r_2 ≤ 4 then (
  some 0)
  else (
  some 1))
theorem e_X12_noDoors : yX12_noDoors.cls = RX12 ∧ yX12_noDoors.cls ≠ "java/lang/invoke/MethodHandle" ∧ yX12_noDoors.cls ≠ "java/lang/invoke/VarHandle" ∧ (parseMethodDescriptor yX12_noDoors.desc).map (fun d => d.parameters.length) = some 1 := by decide +kernel
set_option maxRecDepth 100000 in
set_option maxHeartbeats 4000000 in
theorem c_X12_noDoors (x1 : Int32) (h : PH) (r : Int32) (hf : f_X12_noDoors x1 h = some r) : Con yX12_noDoors wsX12_noDoors (rm_d 1) l0_B [.ref 43, .int x1] h (some (.int r)) h := by
  have hn12 : ∀ w ∈ wsX120, w ∈ wsX12_noDoors := (fun _ hw => (List.mem_cons_of_mem _ (List.mem_append_right _ hw)))
  refine con_i (ty := .boolean) (cc := cX12_noDoors) (nL := 2) (by decide) rfl (Nat.le_of_ble_eq_true rfl) ?_
  intro C hC hret
  change Go l0_B C 0 0 0 [(0, .ref 43), (1, .int x1)] [] h
  unfold f_X12_noDoors at hf
  refine go_iload_n hC dX12_noDoors_0 rfl 1 rfl ?_
  refine go_i2l hC dX12_noDoors_1 ?_
  refine go_lconst hC dX12_noDoors_2 (v := 1) rfl ?_
  refine go_lconst hC dX12_noDoors_3 (v := 1) rfl ?_
  refine go_aload_n hC dX12_noDoors_4 rfl 0 rfl ?_
  refine go_geti hC (j := 1) (idx := 117) (nm := "places") (ds := "I") (b_43 _) rfl rfl hn12 (Nat.le_of_ble_eq_true rfl) rfl rfl (List.mem_cons_of_mem _ (List.mem_append_left _ (List.mem_of_getElem? (i := 0) rfl))) (Or.inl rfl) dX12_noDoors_5 ?_
  refine go_lshl hC dX12_noDoors_8 ?_
  refine go_lconst hC dX12_noDoors_9 (v := 1) rfl ?_
  refine go_lsub hC dX12_noDoors_10 ?_
  obtain ⟨r_1, hc, hf⟩ := bd_e1 hf
  refine go_callS hC (c_X12_in x1.toInt64 1 (((1 : Int64) <<< ((h.1 43 1).toInt64 &&& 63)) - 1) h r_1 hc) gX12_noDoors_X12_in rfl ⟨rfl, rfl⟩ 3 e_X12_in ⟨Nat.le_of_ble_eq_true rfl, Nat.le_of_ble_eq_true rfl⟩ rfl (st := []) (st1 := [.int r_1]) rfl rfl (Nat.le_of_ble_eq_true rfl) ⟨Nat.zero_le _, Nat.zero_le _⟩ dX12_noDoors_11 ?_
  refine go_if_eq hC dX12_noDoors_14 (tgt := 25) (by decide) (fun c_4 => ?_) (fun c_4 => ?_)
  · replace hf := if_t c_4 hf
    refine go_iconst hC dX12_noDoors_25 k1_1 ?_
    refine go_goto hC dX12_noDoors_26 (tgt := 30) (by decide) ?_
    obtain rfl := so_1 hf
    exact hret _ _ (zo_n (Or.inr rfl)) dX12_noDoors_30
  · replace hf := if_f c_4 hf
    refine go_iload_n hC dX12_noDoors_17 rfl 1 rfl ?_
    obtain ⟨r_2, hc, hf⟩ := bd_e1 hf
    refine go_callS hC (c_X12_bits x1 h r_2 hc) gX12_noDoors_X12_bits rfl ⟨rfl, rfl⟩ 1 e_X12_bits ⟨Nat.le_of_ble_eq_true rfl, Nat.le_of_ble_eq_true rfl⟩ rfl (st := []) (st1 := [.int r_2]) rfl rfl (Nat.le_of_ble_eq_true rfl) ⟨Nat.zero_le _, Nat.zero_le _⟩ dX12_noDoors_18 ?_
    refine go_iconst hC dX12_noDoors_21 k1_4 ?_
    refine go_icmp_le hC dX12_noDoors_22 (tgt := 29) (by decide) (fun c_3 => ?_) (fun c_3 => ?_)
    · replace hf := if_t c_3 hf
      refine go_iconst hC dX12_noDoors_29 k1_0 ?_
      obtain rfl := so_1 hf
      exact hret _ _ (zo_n (Or.inl rfl)) dX12_noDoors_30
    · replace hf := if_f c_3 hf
      refine go_iconst hC dX12_noDoors_25 k1_1 ?_
      refine go_goto hC dX12_noDoors_26 (tgt := 30) (by decide) ?_
      obtain rfl := so_1 hf
      exact hret _ _ (zo_n (Or.inr rfl)) dX12_noDoors_30
def lb_X12_layDoors_36 (x1 : Int32) (x2 : Int32) (x3 : Int32) (x4 : Int32) (h : PH) (x5 : Int32) (x6 : Int32) : Option ((Int32 × Int32) ⊕ (Int32 × Int32)) :=
  if x3 ≤ x6 then (
  some (.inr (x5, x6)))
  else (
  bd_1 (f_X12_doorIn x4 x3 x6 h) fun r_8 =>
  lt_b (x5 ||| ((1 : Int32) <<< (r_8 &&& 31))) fun x5_9 =>
  lt_b (x6 + 1) fun x6_10 =>
  some (.inl (x5_9, x6_10)))
def lb_X12_layDoors_20 (x1 : Int32) (x2 : Int32) (x3 : Int32) (x4 : Int32) (h : PH) : Option ((Int32 × PH) ⊕ (Int32 × PH)) :=
  if ((1 : Int32) <<< ((3 * x3) &&& 31)) ≤ x4 then (
  some (.inr (x4, h)))
  else (
  bd_1 (lp_f (fun s => lb_X12_layDoors_36 x1 x2 x3 x4 h s.1 s.2) fu_l (0, 0)) fun s_26 =>
  if s_26.1 = x2 then (
  bd_1 (f_X12_coresOf x1 x4 x3 h) fun r_32 =>
  if (h.1 43 36) ≤ r_32 then (
  lt_b (x4 + 1) fun x4_33 =>
  some (.inl (x4_33, h)))
  else (
  lt_b (ph_i h 43 35 x4) fun h_34 =>
  lt_b (ph_i h_34 43 36 r_32) fun h_35 =>
  lt_b (x4 + 1) fun x4_36 =>
  some (.inl (x4_36, h_35))))
  else (
  if (h.1 43 36) ≤ (10000000 : Int32) then (
  lt_b (x4 + 1) fun x4_27 =>
  some (.inl (x4_27, h)))
  else (
  lt_b (ph_i h 43 35 x4) fun h_28 =>
  lt_b (ph_i h_28 43 36 10000000) fun h_29 =>
  lt_b (x4 + 1) fun x4_30 =>
  some (.inl (x4_30, h_29)))))
def f_X12_layDoors (x1 : Int32) (x2 : Int32) (h : PH) : Option (Unit × PH) :=
  bd_1 (f_X12_bits x2 h) fun r_1 =>
  lt_b (ph_i h 43 35 (-9)) fun h_2 =>
  lt_b (ph_i h_2 43 36 10000000) fun h_3 =>
  bd_1 (lp_f (fun s => lb_X12_layDoors_20 x1 x2 r_1 s.1 s.2) fu_l (0, h_3)) fun s_40 =>
  some ((), s_40.2)
set_option maxRecDepth 100000 in
set_option maxHeartbeats 4000000 in
theorem lw_X12_layDoors_36 {C : GC} (hC : Cx C cX12_layDoors 7 wsX12_layDoors RX12 none (rm_d 2)) (x1 : Int32) (x2 : Int32) (x3 : Int32) (x4 : Int32) (h : PH) : ∀ (n9 : Nat) (x5 : Int32) (x6 : Int32) (y : Int32 × Int32), lp_f (fun s => lb_X12_layDoors_36 x1 x2 x3 x4 h s.1 s.2) n9 (x5, x6) = some y → ∀ (hk : Go l0_B C 0 0 63 [(0, .ref 43), (1, .int x1), (2, .int x2), (3, .int x3), (4, .int x4), (5, .int y.1)] [] h), Go l0_B C 0 0 36 [(0, .ref 43), (1, .int x1), (2, .int x2), (3, .int x3), (4, .int x4), (5, .int x5), (6, .int x6)] [] h := by
  have hn12 : ∀ w ∈ wsX120, w ∈ wsX12_layDoors := (fun _ hw => (List.mem_cons_of_mem _ (List.mem_append_right _ hw)))
  intro n9
  induction n9 with
  | zero =>
    intro x5 x6 y hlp
    cases hlp
  | succ n9 ih =>
    intro x5 x6 y hlp hk
    obtain ⟨k9, z, hk9, hf, hy⟩ := lp_e hlp
    cases hk9
    replace hf : lb_X12_layDoors_36 x1 x2 x3 x4 h x5 x6 = some z := hf
    unfold lb_X12_layDoors_36 at hf
    refine go_iload hC dX12_layDoors_36 6 rfl ?_
    refine go_iload_n hC dX12_layDoors_38 rfl 3 rfl ?_
    refine go_icmp_ge hC dX12_layDoors_39 (tgt := 63) (by decide) (fun c_11 => ?_) (fun c_11 => ?_)
    · replace hf := if_t c_11 hf
      obtain rfl := so_1 hf
      obtain rfl := lp_x hy
      refine go_sub [0, 1, 2, 3, 4, 5] rfl ?_
      exact hk
    · replace hf := if_f c_11 hf
      refine go_iload hC dX12_layDoors_42 5 rfl ?_
      refine go_iconst hC dX12_layDoors_44 k1_1 ?_
      refine go_iload hC dX12_layDoors_45 4 rfl ?_
      refine go_iload_n hC dX12_layDoors_47 rfl 3 rfl ?_
      refine go_iload hC dX12_layDoors_48 6 rfl ?_
      obtain ⟨r_8, hc, hf⟩ := bd_e1 hf
      refine go_callS hC (c_X12_doorIn x4 x3 x6 h r_8 hc) gX12_layDoors_X12_doorIn rfl ⟨rfl, rfl⟩ 3 e_X12_doorIn ⟨Nat.le_of_ble_eq_true rfl, Nat.le_of_ble_eq_true rfl⟩ rfl (st := [.int 1, .int x5]) (st1 := [.int r_8, .int 1, .int x5]) rfl rfl (Nat.le_of_ble_eq_true rfl) ⟨Nat.zero_le _, Nat.zero_le _⟩ dX12_layDoors_50 ?_
      refine go_ishl hC dX12_layDoors_53 ?_
      refine go_ior hC dX12_layDoors_54 ?_
      obtain ⟨x5_9, ex5_9, hf⟩ := lt_e hf
      refine go_topi ex5_9 ?_
      refine go_istore hC dX12_layDoors_55 (Nat.le_of_ble_eq_true rfl) rfl ?_
      obtain ⟨x6_10, ex6_10, hf⟩ := lt_e hf
      refine go_iinc hC dX12_layDoors_57 6 rfl k1_1 ex6_10 (Nat.le_of_ble_eq_true rfl) rfl ?_
      refine go_goto hC dX12_layDoors_60 (tgt := 36) (by decide) ?_
      obtain rfl := so_1 hf
      refine go_sub [2, 3, 4, 5, 6, 1, 0] rfl ?_
      exact ih x5_9 x6_10 _ (lp_c hy) hk
set_option maxRecDepth 100000 in
set_option maxHeartbeats 4000000 in
theorem lw_X12_layDoors_20 {C : GC} (hC : Cx C cX12_layDoors 7 wsX12_layDoors RX12 none (rm_d 2)) (x1 : Int32) (x2 : Int32) (x3 : Int32) : ∀ (n9 : Nat) (x4 : Int32) (h : PH) (y : Int32 × PH), lp_f (fun s => lb_X12_layDoors_20 x1 x2 x3 s.1 s.2) n9 (x4, h) = some y → ∀ (hk : Go l0_B C 0 0 111 [] [] y.2), Go l0_B C 0 0 20 [(0, .ref 43), (1, .int x1), (2, .int x2), (3, .int x3), (4, .int x4)] [] h := by
  have hn12 : ∀ w ∈ wsX120, w ∈ wsX12_layDoors := (fun _ hw => (List.mem_cons_of_mem _ (List.mem_append_right _ hw)))
  intro n9
  induction n9 with
  | zero =>
    intro x4 h y hlp
    cases hlp
  | succ n9 ih =>
    intro x4 h y hlp hk
    obtain ⟨k9, z, hk9, hf, hy⟩ := lp_e hlp
    cases hk9
    replace hf : lb_X12_layDoors_20 x1 x2 x3 x4 h = some z := hf
    unfold lb_X12_layDoors_20 at hf
    refine go_iload hC dX12_layDoors_20 4 rfl ?_
    refine go_iconst hC dX12_layDoors_22 k1_1 ?_
    refine go_iconst hC dX12_layDoors_23 k1_3 ?_
    refine go_iload_n hC dX12_layDoors_24 rfl 3 rfl ?_
    refine go_imul hC dX12_layDoors_25 ?_
    refine go_ishl hC dX12_layDoors_26 ?_
    refine go_icmp_ge hC dX12_layDoors_27 (tgt := 111) (by decide) (fun c_39 => ?_) (fun c_39 => ?_)
    · replace hf := if_t c_39 hf
      obtain rfl := so_1 hf
      obtain rfl := lp_x hy
      refine go_sub [] rfl ?_
      exact hk
    · replace hf := if_f c_39 hf
      refine go_iconst hC dX12_layDoors_30 k1_0 ?_
      refine go_istore hC dX12_layDoors_31 (Nat.le_of_ble_eq_true rfl) rfl ?_
      refine go_iconst hC dX12_layDoors_33 k1_0 ?_
      refine go_istore hC dX12_layDoors_34 (Nat.le_of_ble_eq_true rfl) rfl ?_
      obtain ⟨s_26, hl, hf⟩ := bd_e1 hf
      refine go_sub [2, 3, 4, 5, 6, 1, 0] rfl ?_
      refine lw_X12_layDoors_36 hC x1 x2 x3 x4 h _ 0 0 s_26 hl ?_
      refine go_iload hC dX12_layDoors_63 5 rfl ?_
      refine go_iload_n hC dX12_layDoors_65 rfl 2 rfl ?_
      refine go_icmp_ne hC dX12_layDoors_66 (tgt := 80) (by decide) (fun c_38 => ?_) (fun c_38 => ?_)
      · replace hf := if_f c_38 hf
        refine go_ldc hC (v := 10000000) (List.mem_cons_of_mem _ (List.mem_append_left _ (List.mem_of_getElem? (i := 1) rfl))) dX12_layDoors_80 ?_
        refine go_istore hC dX12_layDoors_82 (Nat.le_of_ble_eq_true rfl) rfl ?_
        refine go_iload hC dX12_layDoors_84 0 rfl ?_
        refine go_aload_n hC dX12_layDoors_86 rfl 1 rfl ?_
        refine go_geti hC (j := 36) (idx := 317) (nm := "bestCores") (ds := "I") (b_43 _) rfl rfl hn12 (Nat.le_of_ble_eq_true rfl) rfl rfl (List.mem_cons_of_mem _ (List.mem_append_left _ (List.mem_of_getElem? (i := 2) rfl))) (Or.inl rfl) dX12_layDoors_87 ?_
        refine go_icmp_ge hC dX12_layDoors_90 (tgt := 105) (by decide) (fun c_31 => ?_) (fun c_31 => ?_)
        · replace hf := if_t c_31 hf
          obtain ⟨x4_27, ex4_27, hf⟩ := lt_e hf
          refine go_iinc hC dX12_layDoors_105 5 rfl k1_1 ex4_27 (Nat.le_of_ble_eq_true rfl) rfl ?_
          refine go_goto hC dX12_layDoors_108 (tgt := 20) (by decide) ?_
          obtain rfl := so_1 hf
          refine go_sub [2, 3, 4, 5, 0] rfl ?_
          exact ih x4_27 h _ (lp_c hy) hk
        · replace hf := if_f c_31 hf
          refine go_aload_n hC dX12_layDoors_93 rfl 1 rfl ?_
          refine go_iload hC dX12_layDoors_94 5 rfl ?_
          obtain ⟨h_28, eh_28, hf⟩ := lt_e hf
          refine go_puti hC tyX12 (j := 35) (idx := 314) (nm := "bestDoors") (ds := "I") (b_43 _) rfl rfl hn12 tyX12_ok nmX12 (Nat.le_of_ble_eq_true rfl) rfl rfl (List.mem_cons_of_mem _ (List.mem_append_left _ (List.mem_of_getElem? (i := 0) rfl))) (Or.inl rfl) rfl (tyX12_ok _ (Nat.le_of_ble_eq_true rfl)) dX12_layDoors_96 ?_
          refine go_toph eh_28 ?_
          refine go_aload_n hC dX12_layDoors_99 rfl 1 rfl ?_
          refine go_iload hC dX12_layDoors_100 0 rfl ?_
          obtain ⟨h_29, eh_29, hf⟩ := lt_e hf
          refine go_puti hC tyX12 (j := 36) (idx := 317) (nm := "bestCores") (ds := "I") (b_43 _) rfl rfl hn12 tyX12_ok nmX12 (Nat.le_of_ble_eq_true rfl) rfl rfl (List.mem_cons_of_mem _ (List.mem_append_left _ (List.mem_of_getElem? (i := 2) rfl))) (Or.inl rfl) rfl (tyX12_ok _ (Nat.le_of_ble_eq_true rfl)) dX12_layDoors_102 ?_
          refine go_toph eh_29 ?_
          obtain ⟨x4_30, ex4_30, hf⟩ := lt_e hf
          refine go_iinc hC dX12_layDoors_105 5 rfl k1_1 ex4_30 (Nat.le_of_ble_eq_true rfl) rfl ?_
          refine go_goto hC dX12_layDoors_108 (tgt := 20) (by decide) ?_
          obtain rfl := so_1 hf
          refine go_sub [2, 3, 4, 5, 0] rfl ?_
          exact ih x4_30 h_29 _ (lp_c hy) hk
      · replace hf := if_t c_38 hf
        refine go_aload_n hC dX12_layDoors_69 rfl 0 rfl ?_
        refine go_iload_n hC dX12_layDoors_70 rfl 1 rfl ?_
        refine go_iload hC dX12_layDoors_71 4 rfl ?_
        refine go_iload_n hC dX12_layDoors_73 rfl 3 rfl ?_
        obtain ⟨r_32, hc, hf⟩ := bd_e1 hf
        refine go_callV hC (c_X12_coresOf x1 x4 x3 h r_32 hc) gX12_layDoors_X12_coresOf rfl ⟨rfl, rfl⟩ 3 e_X12_coresOf ⟨Nat.le_of_ble_eq_true rfl, Nat.le_of_ble_eq_true rfl⟩ (b_43 _) rfl rfl (st := []) (st1 := [.int r_32]) rfl rfl (Nat.le_of_ble_eq_true rfl) ⟨Nat.zero_le _, Nat.zero_le _⟩ dX12_layDoors_74 ?_
        refine go_goto hC dX12_layDoors_77 (tgt := 82) (by decide) ?_
        refine go_istore hC dX12_layDoors_82 (Nat.le_of_ble_eq_true rfl) rfl ?_
        refine go_iload hC dX12_layDoors_84 0 rfl ?_
        refine go_aload_n hC dX12_layDoors_86 rfl 1 rfl ?_
        refine go_geti hC (j := 36) (idx := 317) (nm := "bestCores") (ds := "I") (b_43 _) rfl rfl hn12 (Nat.le_of_ble_eq_true rfl) rfl rfl (List.mem_cons_of_mem _ (List.mem_append_left _ (List.mem_of_getElem? (i := 2) rfl))) (Or.inl rfl) dX12_layDoors_87 ?_
        refine go_icmp_ge hC dX12_layDoors_90 (tgt := 105) (by decide) (fun c_37 => ?_) (fun c_37 => ?_)
        · replace hf := if_t c_37 hf
          obtain ⟨x4_33, ex4_33, hf⟩ := lt_e hf
          refine go_iinc hC dX12_layDoors_105 5 rfl k1_1 ex4_33 (Nat.le_of_ble_eq_true rfl) rfl ?_
          refine go_goto hC dX12_layDoors_108 (tgt := 20) (by decide) ?_
          obtain rfl := so_1 hf
          refine go_sub [2, 3, 4, 5, 0] rfl ?_
          exact ih x4_33 h _ (lp_c hy) hk
        · replace hf := if_f c_37 hf
          refine go_aload_n hC dX12_layDoors_93 rfl 1 rfl ?_
          refine go_iload hC dX12_layDoors_94 5 rfl ?_
          obtain ⟨h_34, eh_34, hf⟩ := lt_e hf
          refine go_puti hC tyX12 (j := 35) (idx := 314) (nm := "bestDoors") (ds := "I") (b_43 _) rfl rfl hn12 tyX12_ok nmX12 (Nat.le_of_ble_eq_true rfl) rfl rfl (List.mem_cons_of_mem _ (List.mem_append_left _ (List.mem_of_getElem? (i := 0) rfl))) (Or.inl rfl) rfl (tyX12_ok _ (Nat.le_of_ble_eq_true rfl)) dX12_layDoors_96 ?_
          refine go_toph eh_34 ?_
          refine go_aload_n hC dX12_layDoors_99 rfl 1 rfl ?_
          refine go_iload hC dX12_layDoors_100 0 rfl ?_
          obtain ⟨h_35, eh_35, hf⟩ := lt_e hf
          refine go_puti hC tyX12 (j := 36) (idx := 317) (nm := "bestCores") (ds := "I") (b_43 _) rfl rfl hn12 tyX12_ok nmX12 (Nat.le_of_ble_eq_true rfl) rfl rfl (List.mem_cons_of_mem _ (List.mem_append_left _ (List.mem_of_getElem? (i := 2) rfl))) (Or.inl rfl) rfl (tyX12_ok _ (Nat.le_of_ble_eq_true rfl)) dX12_layDoors_102 ?_
          refine go_toph eh_35 ?_
          obtain ⟨x4_36, ex4_36, hf⟩ := lt_e hf
          refine go_iinc hC dX12_layDoors_105 5 rfl k1_1 ex4_36 (Nat.le_of_ble_eq_true rfl) rfl ?_
          refine go_goto hC dX12_layDoors_108 (tgt := 20) (by decide) ?_
          obtain rfl := so_1 hf
          refine go_sub [2, 3, 4, 5, 0] rfl ?_
          exact ih x4_36 h_35 _ (lp_c hy) hk
theorem e_X12_layDoors : yX12_layDoors.cls = RX12 ∧ yX12_layDoors.cls ≠ "java/lang/invoke/MethodHandle" ∧ yX12_layDoors.cls ≠ "java/lang/invoke/VarHandle" ∧ (parseMethodDescriptor yX12_layDoors.desc).map (fun d => d.parameters.length) = some 2 := by decide +kernel
set_option maxRecDepth 100000 in
set_option maxHeartbeats 4000000 in
theorem c_X12_layDoors (x1 : Int32) (x2 : Int32) (h : PH) (h2 : PH) (hf : f_X12_layDoors x1 x2 h = some ((), h2)) : Con yX12_layDoors wsX12_layDoors (rm_d 2) l0_B [.ref 43, .int x1, .int x2] h none h2 := by
  have hn12 : ∀ w ∈ wsX120, w ∈ wsX12_layDoors := (fun _ hw => (List.mem_cons_of_mem _ (List.mem_append_right _ hw)))
  refine con_v (cc := cX12_layDoors) (nL := 7) (by decide) rfl (Nat.le_of_ble_eq_true rfl) ?_
  intro C hC hret
  change Go l0_B C 0 0 0 [(0, .ref 43), (1, .int x1), (2, .int x2)] [] h
  unfold f_X12_layDoors at hf
  refine go_iload_n hC dX12_layDoors_0 rfl 2 rfl ?_
  obtain ⟨r_1, hc, hf⟩ := bd_e1 hf
  refine go_callS hC (c_X12_bits x2 h r_1 hc) gX12_layDoors_X12_bits rfl ⟨rfl, rfl⟩ 1 e_X12_bits ⟨Nat.le_of_ble_eq_true rfl, Nat.le_of_ble_eq_true rfl⟩ rfl (st := []) (st1 := [.int r_1]) rfl rfl (Nat.le_of_ble_eq_true rfl) ⟨Nat.zero_le _, Nat.zero_le _⟩ dX12_layDoors_1 ?_
  refine go_istore_n hC dX12_layDoors_4 rfl (Nat.le_of_ble_eq_true rfl) rfl ?_
  refine go_aload_n hC dX12_layDoors_5 rfl 1 rfl ?_
  refine go_bipush hC dX12_layDoors_6 k8_m9 ?_
  obtain ⟨h_2, eh_2, hf⟩ := lt_e hf
  refine go_puti hC tyX12 (j := 35) (idx := 314) (nm := "bestDoors") (ds := "I") (b_43 _) rfl rfl hn12 tyX12_ok nmX12 (Nat.le_of_ble_eq_true rfl) rfl rfl (List.mem_cons_of_mem _ (List.mem_append_left _ (List.mem_of_getElem? (i := 0) rfl))) (Or.inl rfl) rfl (tyX12_ok _ (Nat.le_of_ble_eq_true rfl)) dX12_layDoors_8 ?_
  refine go_toph eh_2 ?_
  refine go_aload_n hC dX12_layDoors_11 rfl 1 rfl ?_
  refine go_ldc hC (v := 10000000) (List.mem_cons_of_mem _ (List.mem_append_left _ (List.mem_of_getElem? (i := 1) rfl))) dX12_layDoors_12 ?_
  obtain ⟨h_3, eh_3, hf⟩ := lt_e hf
  refine go_puti hC tyX12 (j := 36) (idx := 317) (nm := "bestCores") (ds := "I") (b_43 _) rfl rfl hn12 tyX12_ok nmX12 (Nat.le_of_ble_eq_true rfl) rfl rfl (List.mem_cons_of_mem _ (List.mem_append_left _ (List.mem_of_getElem? (i := 2) rfl))) (Or.inl rfl) rfl (tyX12_ok _ (Nat.le_of_ble_eq_true rfl)) dX12_layDoors_14 ?_
  refine go_toph eh_3 ?_
  refine go_iconst hC dX12_layDoors_17 k1_0 ?_
  refine go_istore hC dX12_layDoors_18 (Nat.le_of_ble_eq_true rfl) rfl ?_
  obtain ⟨s_40, hl, hf⟩ := bd_e1 hf
  refine go_sub [2, 3, 4, 1, 0] rfl ?_
  refine lw_X12_layDoors_20 hC x1 x2 r_1 _ 0 h_3 s_40 hl ?_
  obtain ⟨-, rfl⟩ := so_2 hf
  exact hret _ _ dX12_layDoors_111
def f_X12_cores (x1 : Int32) (x2 : Int32) (h : PH) : Option (Int32 × PH) :=
  bd_1 (f_X12_noPlace x1 h) fun r_1 =>
  if r_1 = 0 then (
  bd_1 (f_X12_noDoors x2 h) fun r_2 =>
  if r_2 = 0 then (
  bd_2 (f_X12_layDoors x1 x2 h) fun r_3 h_4 =>
  if 0 ≤ (h_4.1 43 35) then (
  some (h_4.1 43 36, h_4))
  else (
  some ((-9), h_4)))
  else (
  some ((-2), h)))
  else (
  some ((-1), h))
theorem e_X12_cores : yX12_cores.cls = RX12 ∧ yX12_cores.cls ≠ "java/lang/invoke/MethodHandle" ∧ yX12_cores.cls ≠ "java/lang/invoke/VarHandle" ∧ (parseMethodDescriptor yX12_cores.desc).map (fun d => d.parameters.length) = some 2 := by decide +kernel
set_option maxRecDepth 100000 in
set_option maxHeartbeats 4000000 in
theorem c_X12_cores (x1 : Int32) (x2 : Int32) (h : PH) (h2 : PH) (r : Int32) (hf : f_X12_cores x1 x2 h = some (r, h2)) : Con yX12_cores wsX12_cores (rm_d 3) l0_B [.ref 43, .int x1, .int x2] h (some (.int r)) h2 := by
  have hn12 : ∀ w ∈ wsX120, w ∈ wsX12_cores := (fun _ hw => (List.mem_cons_of_mem _ (List.mem_append_right _ hw)))
  refine con_i (ty := .int) (cc := cX12_cores) (nL := 3) (by decide) rfl (Nat.le_of_ble_eq_true rfl) ?_
  intro C hC hret
  change Go l0_B C 0 0 0 [(0, .ref 43), (1, .int x1), (2, .int x2)] [] h
  unfold f_X12_cores at hf
  refine go_aload_n hC dX12_cores_0 rfl 0 rfl ?_
  refine go_iload_n hC dX12_cores_1 rfl 1 rfl ?_
  obtain ⟨r_1, hc, hf⟩ := bd_e1 hf
  refine go_callV hC (c_X12_noPlace x1 h r_1 hc) gX12_cores_X12_noPlace rfl ⟨rfl, rfl⟩ 1 e_X12_noPlace ⟨Nat.le_of_ble_eq_true rfl, Nat.le_of_ble_eq_true rfl⟩ (b_43 _) rfl rfl (st := []) (st1 := [.int r_1]) rfl rfl (Nat.le_of_ble_eq_true rfl) ⟨Nat.zero_le _, Nat.zero_le _⟩ dX12_cores_2 ?_
  refine go_if_eq hC dX12_cores_5 (tgt := 10) (by decide) (fun c_7 => ?_) (fun c_7 => ?_)
  · replace hf := if_t c_7 hf
    refine go_aload_n hC dX12_cores_10 rfl 0 rfl ?_
    refine go_iload_n hC dX12_cores_11 rfl 2 rfl ?_
    obtain ⟨r_2, hc, hf⟩ := bd_e1 hf
    refine go_callV hC (c_X12_noDoors x2 h r_2 hc) gX12_cores_X12_noDoors rfl ⟨rfl, rfl⟩ 1 e_X12_noDoors ⟨Nat.le_of_ble_eq_true rfl, Nat.le_of_ble_eq_true rfl⟩ (b_43 _) rfl rfl (st := []) (st1 := [.int r_2]) rfl rfl (Nat.le_of_ble_eq_true rfl) ⟨Nat.zero_le _, Nat.zero_le _⟩ dX12_cores_12 ?_
    refine go_if_eq hC dX12_cores_15 (tgt := 21) (by decide) (fun c_6 => ?_) (fun c_6 => ?_)
    · replace hf := if_t c_6 hf
      refine go_aload_n hC dX12_cores_21 rfl 0 rfl ?_
      refine go_iload_n hC dX12_cores_22 rfl 1 rfl ?_
      refine go_iload_n hC dX12_cores_23 rfl 2 rfl ?_
      obtain ⟨r_3, h_4, hc, hf⟩ := bd_e2 hf
      refine go_callV hC (c_X12_layDoors x1 x2 h h_4 hc) gX12_cores_X12_layDoors rfl ⟨rfl, rfl⟩ 2 e_X12_layDoors ⟨Nat.le_of_ble_eq_true rfl, Nat.le_of_ble_eq_true rfl⟩ (b_43 _) rfl rfl (st := []) (st1 := []) rfl rfl (Nat.le_of_ble_eq_true rfl) ⟨Nat.zero_le _, Nat.zero_le _⟩ dX12_cores_24 ?_
      refine go_aload_n hC dX12_cores_27 rfl 0 rfl ?_
      refine go_geti hC (j := 35) (idx := 314) (nm := "bestDoors") (ds := "I") (b_43 _) rfl rfl hn12 (Nat.le_of_ble_eq_true rfl) rfl rfl (List.mem_cons_of_mem _ (List.mem_append_left _ (List.mem_append_left _ (List.mem_of_getElem? (i := 0) rfl)))) (Or.inl rfl) dX12_cores_28 ?_
      refine go_if_ge hC dX12_cores_31 (tgt := 39) (by decide) (fun c_5 => ?_) (fun c_5 => ?_)
      · replace hf := if_t c_5 hf
        refine go_aload_n hC dX12_cores_39 rfl 0 rfl ?_
        refine go_geti hC (j := 36) (idx := 317) (nm := "bestCores") (ds := "I") (b_43 _) rfl rfl hn12 (Nat.le_of_ble_eq_true rfl) rfl rfl (List.mem_cons_of_mem _ (List.mem_append_left _ (List.mem_append_left _ (List.mem_of_getElem? (i := 1) rfl)))) (Or.inl rfl) dX12_cores_40 ?_
        obtain ⟨rfl, rfl⟩ := so_2 hf
        exact hret _ _ rfl dX12_cores_43
      · replace hf := if_f c_5 hf
        refine go_bipush hC dX12_cores_34 k8_m9 ?_
        refine go_goto hC dX12_cores_36 (tgt := 43) (by decide) ?_
        obtain ⟨rfl, rfl⟩ := so_2 hf
        exact hret _ _ rfl dX12_cores_43
    · replace hf := if_f c_6 hf
      refine go_bipush hC dX12_cores_18 k8_m2 ?_
      obtain ⟨rfl, rfl⟩ := so_2 hf
      exact hret _ _ rfl dX12_cores_20
  · replace hf := if_f c_7 hf
    refine go_iconst hC dX12_cores_8 k1_m1 ?_
    obtain ⟨rfl, rfl⟩ := so_2 hf
    exact hret _ _ rfl dX12_cores_9
def f_X12_door (x1 : Int32) (x2 : Int32) (x3 : Int32) (h : PH) : Option (Int32 × PH) :=
  bd_1 (f_X12_noPlace x1 h) fun r_1 =>
  if r_1 = 0 then (
  bd_1 (f_X12_noDoors x2 h) fun r_2 =>
  if r_2 = 0 then (
  bd_1 (f_X12_in x3.toInt64 0 3 h) fun r_3 =>
  if r_3 = 0 then (
  some ((-1), h))
  else (
  bd_2 (f_X12_layDoors x1 x2 h) fun r_4 h_5 =>
  if (h_5.1 43 35) < 0 then (
  some ((-9), h_5))
  else (
  bd_1 (f_X12_bits x2 h_5) fun r_6 =>
  if x3 < r_6 then (
  bd_1 (f_X12_bits x2 h_5) fun r_7 =>
  bd_1 (f_X12_doorIn (h_5.1 43 35) r_7 x3 h_5) fun r_8 =>
  some (r_8, h_5))
  else (
  some ((-9), h_5)))))
  else (
  some ((-2), h)))
  else (
  some ((-1), h))
theorem e_X12_door : yX12_door.cls = RX12 ∧ yX12_door.cls ≠ "java/lang/invoke/MethodHandle" ∧ yX12_door.cls ≠ "java/lang/invoke/VarHandle" ∧ (parseMethodDescriptor yX12_door.desc).map (fun d => d.parameters.length) = some 3 := by decide +kernel
set_option maxRecDepth 100000 in
set_option maxHeartbeats 4000000 in
theorem c_X12_door (x1 : Int32) (x2 : Int32) (x3 : Int32) (h : PH) (h2 : PH) (r : Int32) (hf : f_X12_door x1 x2 x3 h = some (r, h2)) : Con yX12_door wsX12_door (rm_d 3) l0_B [.ref 43, .int x1, .int x2, .int x3] h (some (.int r)) h2 := by
  have hn12 : ∀ w ∈ wsX120, w ∈ wsX12_door := (fun _ hw => (List.mem_cons_of_mem _ (List.mem_append_right _ hw)))
  refine con_i (ty := .int) (cc := cX12_door) (nL := 4) (by decide) rfl (Nat.le_of_ble_eq_true rfl) ?_
  intro C hC hret
  change Go l0_B C 0 0 0 [(0, .ref 43), (1, .int x1), (2, .int x2), (3, .int x3)] [] h
  unfold f_X12_door at hf
  refine go_aload_n hC dX12_door_0 rfl 0 rfl ?_
  refine go_iload_n hC dX12_door_1 rfl 1 rfl ?_
  obtain ⟨r_1, hc, hf⟩ := bd_e1 hf
  refine go_callV hC (c_X12_noPlace x1 h r_1 hc) gX12_door_X12_noPlace rfl ⟨rfl, rfl⟩ 1 e_X12_noPlace ⟨Nat.le_of_ble_eq_true rfl, Nat.le_of_ble_eq_true rfl⟩ (b_43 _) rfl rfl (st := []) (st1 := [.int r_1]) rfl rfl (Nat.le_of_ble_eq_true rfl) ⟨Nat.zero_le _, Nat.zero_le _⟩ dX12_door_2 ?_
  refine go_if_eq hC dX12_door_5 (tgt := 10) (by decide) (fun c_13 => ?_) (fun c_13 => ?_)
  · replace hf := if_t c_13 hf
    refine go_aload_n hC dX12_door_10 rfl 0 rfl ?_
    refine go_iload_n hC dX12_door_11 rfl 2 rfl ?_
    obtain ⟨r_2, hc, hf⟩ := bd_e1 hf
    refine go_callV hC (c_X12_noDoors x2 h r_2 hc) gX12_door_X12_noDoors rfl ⟨rfl, rfl⟩ 1 e_X12_noDoors ⟨Nat.le_of_ble_eq_true rfl, Nat.le_of_ble_eq_true rfl⟩ (b_43 _) rfl rfl (st := []) (st1 := [.int r_2]) rfl rfl (Nat.le_of_ble_eq_true rfl) ⟨Nat.zero_le _, Nat.zero_le _⟩ dX12_door_12 ?_
    refine go_if_eq hC dX12_door_15 (tgt := 21) (by decide) (fun c_12 => ?_) (fun c_12 => ?_)
    · replace hf := if_t c_12 hf
      refine go_iload_n hC dX12_door_21 rfl 3 rfl ?_
      refine go_i2l hC dX12_door_22 ?_
      refine go_lconst hC dX12_door_23 (v := 0) rfl ?_
      refine go_ldc2 hC (v := 3) (List.mem_cons_of_mem _ (List.mem_append_left _ (List.mem_append_left _ (List.mem_of_getElem? (i := 0) rfl)))) dX12_door_24 ?_
      obtain ⟨r_3, hc, hf⟩ := bd_e1 hf
      refine go_callS hC (c_X12_in x3.toInt64 0 3 h r_3 hc) gX12_door_X12_in rfl ⟨rfl, rfl⟩ 3 e_X12_in ⟨Nat.le_of_ble_eq_true rfl, Nat.le_of_ble_eq_true rfl⟩ rfl (st := []) (st1 := [.int r_3]) rfl rfl (Nat.le_of_ble_eq_true rfl) ⟨Nat.zero_le _, Nat.zero_le _⟩ dX12_door_27 ?_
      refine go_if_ne hC dX12_door_30 (tgt := 35) (by decide) (fun c_11 => ?_) (fun c_11 => ?_)
      · replace hf := if_f c_11 hf
        refine go_aload_n hC dX12_door_35 rfl 0 rfl ?_
        refine go_iload_n hC dX12_door_36 rfl 1 rfl ?_
        refine go_iload_n hC dX12_door_37 rfl 2 rfl ?_
        obtain ⟨r_4, h_5, hc, hf⟩ := bd_e2 hf
        refine go_callV hC (c_X12_layDoors x1 x2 h h_5 hc) gX12_door_X12_layDoors rfl ⟨rfl, rfl⟩ 2 e_X12_layDoors ⟨Nat.le_of_ble_eq_true rfl, Nat.le_of_ble_eq_true rfl⟩ (b_43 _) rfl rfl (st := []) (st1 := []) rfl rfl (Nat.le_of_ble_eq_true rfl) ⟨Nat.zero_le _, Nat.zero_le _⟩ dX12_door_38 ?_
        refine go_aload_n hC dX12_door_41 rfl 0 rfl ?_
        refine go_geti hC (j := 35) (idx := 314) (nm := "bestDoors") (ds := "I") (b_43 _) rfl rfl hn12 (Nat.le_of_ble_eq_true rfl) rfl rfl (List.mem_cons_of_mem _ (List.mem_append_left _ (List.mem_append_left _ (List.mem_of_getElem? (i := 1) rfl)))) (Or.inl rfl) dX12_door_42 ?_
        refine go_if_lt hC dX12_door_45 (tgt := 56) (by decide) (fun c_10 => ?_) (fun c_10 => ?_)
        · replace hf := if_t c_10 hf
          refine go_bipush hC dX12_door_56 k8_m9 ?_
          refine go_goto hC dX12_door_58 (tgt := 73) (by decide) ?_
          obtain ⟨rfl, rfl⟩ := so_2 hf
          exact hret _ _ rfl dX12_door_73
        · replace hf := if_f c_10 hf
          refine go_iload_n hC dX12_door_48 rfl 3 rfl ?_
          refine go_iload_n hC dX12_door_49 rfl 2 rfl ?_
          obtain ⟨r_6, hc, hf⟩ := bd_e1 hf
          refine go_callS hC (c_X12_bits x2 h_5 r_6 hc) gX12_door_X12_bits rfl ⟨rfl, rfl⟩ 1 e_X12_bits ⟨Nat.le_of_ble_eq_true rfl, Nat.le_of_ble_eq_true rfl⟩ rfl (st := [.int x3]) (st1 := [.int r_6, .int x3]) rfl rfl (Nat.le_of_ble_eq_true rfl) ⟨Nat.zero_le _, Nat.zero_le _⟩ dX12_door_50 ?_
          refine go_icmp_lt hC dX12_door_53 (tgt := 61) (by decide) (fun c_9 => ?_) (fun c_9 => ?_)
          · replace hf := if_t c_9 hf
            refine go_aload_n hC dX12_door_61 rfl 0 rfl ?_
            refine go_geti hC (j := 35) (idx := 314) (nm := "bestDoors") (ds := "I") (b_43 _) rfl rfl hn12 (Nat.le_of_ble_eq_true rfl) rfl rfl (List.mem_cons_of_mem _ (List.mem_append_left _ (List.mem_append_left _ (List.mem_of_getElem? (i := 1) rfl)))) (Or.inl rfl) dX12_door_62 ?_
            refine go_iload_n hC dX12_door_65 rfl 2 rfl ?_
            obtain ⟨r_7, hc, hf⟩ := bd_e1 hf
            refine go_callS hC (c_X12_bits x2 h_5 r_7 hc) gX12_door_X12_bits rfl ⟨rfl, rfl⟩ 1 e_X12_bits ⟨Nat.le_of_ble_eq_true rfl, Nat.le_of_ble_eq_true rfl⟩ rfl (st := [.int (h_5.1 43 35)]) (st1 := [.int r_7, .int (h_5.1 43 35)]) rfl rfl (Nat.le_of_ble_eq_true rfl) ⟨Nat.zero_le _, Nat.zero_le _⟩ dX12_door_66 ?_
            refine go_iload_n hC dX12_door_69 rfl 3 rfl ?_
            obtain ⟨r_8, hc, hf⟩ := bd_e1 hf
            refine go_callS hC (c_X12_doorIn (h_5.1 43 35) r_7 x3 h_5 r_8 hc) gX12_door_X12_doorIn rfl ⟨rfl, rfl⟩ 3 e_X12_doorIn ⟨Nat.le_of_ble_eq_true rfl, Nat.le_of_ble_eq_true rfl⟩ rfl (st := []) (st1 := [.int r_8]) rfl rfl (Nat.le_of_ble_eq_true rfl) ⟨Nat.zero_le _, Nat.zero_le _⟩ dX12_door_70 ?_
            obtain ⟨rfl, rfl⟩ := so_2 hf
            exact hret _ _ rfl dX12_door_73
          · replace hf := if_f c_9 hf
            refine go_bipush hC dX12_door_56 k8_m9 ?_
            refine go_goto hC dX12_door_58 (tgt := 73) (by decide) ?_
            obtain ⟨rfl, rfl⟩ := so_2 hf
            exact hret _ _ rfl dX12_door_73
      · replace hf := if_t c_11 hf
        refine go_iconst hC dX12_door_33 k1_m1 ?_
        obtain ⟨rfl, rfl⟩ := so_2 hf
        exact hret _ _ rfl dX12_door_34
    · replace hf := if_f c_12 hf
      refine go_bipush hC dX12_door_18 k8_m2 ?_
      obtain ⟨rfl, rfl⟩ := so_2 hf
      exact hret _ _ rfl dX12_door_20
  · replace hf := if_f c_13 hf
    refine go_iconst hC dX12_door_8 k1_m1 ?_
    obtain ⟨rfl, rfl⟩ := so_2 hf
    exact hret _ _ rfl dX12_door_9
def f_X12_reading (x1 : Int32) (x2 : Int32) (h : PH) : Option (Int32 × PH) :=
  bd_1 (f_X12_in x1.toInt64 0 (((1 : Int64) <<< ((h.1 43 19).toInt64 &&& 63)) - 1) h) fun r_1 =>
  if r_1 = 0 then (
  some ((-2), h))
  else (
  bd_1 (f_X12_in x2.toInt64 0 200 h) fun r_2 =>
  if r_2 = 0 then (
  some ((-2), h))
  else (
  if (h.1 43 37) = 12 then (
  some ((-4), h))
  else (
  ga_i (h.1 43 37) 12 (
  lt_b (ph_i h 65 (h.1 43 37).toNatClampNeg x1) fun h_4 =>
  ga_i (h_4.1 43 37) 12 (
  lt_b (ph_i h_4 66 (h_4.1 43 37).toNatClampNeg x2) fun h_6 =>
  lt_b (ph_i h_6 43 37 ((h_6.1 43 37) + 1)) fun h_7 =>
  some ((h_7.1 43 37) - 1, h_7))))))
theorem e_X12_reading : yX12_reading.cls = RX12 ∧ yX12_reading.cls ≠ "java/lang/invoke/MethodHandle" ∧ yX12_reading.cls ≠ "java/lang/invoke/VarHandle" ∧ (parseMethodDescriptor yX12_reading.desc).map (fun d => d.parameters.length) = some 2 := by decide +kernel
set_option maxRecDepth 100000 in
set_option maxHeartbeats 4000000 in
theorem c_X12_reading (x1 : Int32) (x2 : Int32) (h : PH) (h2 : PH) (r : Int32) (hf : f_X12_reading x1 x2 h = some (r, h2)) : Con yX12_reading wsX12_reading (rm_d 1) l0_B [.ref 43, .int x1, .int x2] h (some (.int r)) h2 := by
  have hn12 : ∀ w ∈ wsX120, w ∈ wsX12_reading := (fun _ hw => (List.mem_cons_of_mem _ (List.mem_append_right _ hw)))
  refine con_i (ty := .int) (cc := cX12_reading) (nL := 3) (by decide) rfl (Nat.le_of_ble_eq_true rfl) ?_
  intro C hC hret
  change Go l0_B C 0 0 0 [(0, .ref 43), (1, .int x1), (2, .int x2)] [] h
  unfold f_X12_reading at hf
  refine go_iload_n hC dX12_reading_0 rfl 1 rfl ?_
  refine go_i2l hC dX12_reading_1 ?_
  refine go_lconst hC dX12_reading_2 (v := 0) rfl ?_
  refine go_lconst hC dX12_reading_3 (v := 1) rfl ?_
  refine go_aload_n hC dX12_reading_4 rfl 0 rfl ?_
  refine go_geti hC (j := 19) (idx := 170) (nm := "points") (ds := "I") (b_43 _) rfl rfl hn12 (Nat.le_of_ble_eq_true rfl) rfl rfl (List.mem_cons_of_mem _ (List.mem_append_left _ (List.mem_of_getElem? (i := 0) rfl))) (Or.inl rfl) dX12_reading_5 ?_
  refine go_lshl hC dX12_reading_8 ?_
  refine go_lconst hC dX12_reading_9 (v := 1) rfl ?_
  refine go_lsub hC dX12_reading_10 ?_
  obtain ⟨r_1, hc, hf⟩ := bd_e1 hf
  refine go_callS hC (c_X12_in x1.toInt64 0 (((1 : Int64) <<< ((h.1 43 19).toInt64 &&& 63)) - 1) h r_1 hc) gX12_reading_X12_in rfl ⟨rfl, rfl⟩ 3 e_X12_in ⟨Nat.le_of_ble_eq_true rfl, Nat.le_of_ble_eq_true rfl⟩ rfl (st := []) (st1 := [.int r_1]) rfl rfl (Nat.le_of_ble_eq_true rfl) ⟨Nat.zero_le _, Nat.zero_le _⟩ dX12_reading_11 ?_
  refine go_if_eq hC dX12_reading_14 (tgt := 29) (by decide) (fun c_10 => ?_) (fun c_10 => ?_)
  · replace hf := if_t c_10 hf
    refine go_bipush hC dX12_reading_29 k8_m2 ?_
    obtain ⟨rfl, rfl⟩ := so_2 hf
    exact hret _ _ rfl dX12_reading_31
  · replace hf := if_f c_10 hf
    refine go_iload_n hC dX12_reading_17 rfl 2 rfl ?_
    refine go_i2l hC dX12_reading_18 ?_
    refine go_lconst hC dX12_reading_19 (v := 0) rfl ?_
    refine go_ldc2 hC (v := 200) (List.mem_cons_of_mem _ (List.mem_append_left _ (List.mem_of_getElem? (i := 1) rfl))) dX12_reading_20 ?_
    obtain ⟨r_2, hc, hf⟩ := bd_e1 hf
    refine go_callS hC (c_X12_in x2.toInt64 0 200 h r_2 hc) gX12_reading_X12_in rfl ⟨rfl, rfl⟩ 3 e_X12_in ⟨Nat.le_of_ble_eq_true rfl, Nat.le_of_ble_eq_true rfl⟩ rfl (st := []) (st1 := [.int r_2]) rfl rfl (Nat.le_of_ble_eq_true rfl) ⟨Nat.zero_le _, Nat.zero_le _⟩ dX12_reading_23 ?_
    refine go_if_ne hC dX12_reading_26 (tgt := 32) (by decide) (fun c_9 => ?_) (fun c_9 => ?_)
    · replace hf := if_f c_9 hf
      refine go_aload_n hC dX12_reading_32 rfl 0 rfl ?_
      refine go_geti hC (j := 37) (idx := 176) (nm := "readings") (ds := "I") (b_43 _) rfl rfl hn12 (Nat.le_of_ble_eq_true rfl) rfl rfl (List.mem_cons_of_mem _ (List.mem_append_left _ (List.mem_of_getElem? (i := 2) rfl))) (Or.inl rfl) dX12_reading_33 ?_
      refine go_bipush hC dX12_reading_36 k8_12 ?_
      refine go_icmp_ne hC dX12_reading_38 (tgt := 44) (by decide) (fun c_8 => ?_) (fun c_8 => ?_)
      · replace hf := if_f c_8 hf
        refine go_aload_n hC dX12_reading_44 rfl 0 rfl ?_
        refine go_getr hC (j := 38) (idx := 75) (nm := "readingSet") (ds := "[I") (b_43 _) rfl rfl hn12 (Nat.le_of_ble_eq_true rfl) rfl rfl (List.mem_cons_of_mem _ (List.mem_append_left _ (List.mem_of_getElem? (i := 3) rfl))) (Or.inl rfl) dX12_reading_45 ?_
        refine go_aload_n hC dX12_reading_48 rfl 0 rfl ?_
        refine go_geti hC (j := 37) (idx := 176) (nm := "readings") (ds := "I") (b_43 _) rfl rfl hn12 (Nat.le_of_ble_eq_true rfl) rfl rfl (List.mem_cons_of_mem _ (List.mem_append_left _ (List.mem_of_getElem? (i := 2) rfl))) (Or.inl rfl) dX12_reading_49 ?_
        refine go_iload_n hC dX12_reading_52 rfl 1 rfl ?_
        obtain ⟨g_3, hf⟩ := ga_e hf
        obtain ⟨h_4, eh_4, hf⟩ := lt_e hf
        refine go_iast hC (b_65 _) g_3 dX12_reading_53 ?_
        refine go_toph eh_4 ?_
        refine go_aload_n hC dX12_reading_54 rfl 0 rfl ?_
        refine go_getr hC (j := 39) (idx := 78) (nm := "readingShows") (ds := "[I") (b_43 _) rfl rfl hn12 (Nat.le_of_ble_eq_true rfl) rfl rfl (List.mem_cons_of_mem _ (List.mem_append_left _ (List.mem_of_getElem? (i := 4) rfl))) (Or.inl rfl) dX12_reading_55 ?_
        refine go_aload_n hC dX12_reading_58 rfl 0 rfl ?_
        refine go_geti hC (j := 37) (idx := 176) (nm := "readings") (ds := "I") (b_43 _) rfl rfl hn12 (Nat.le_of_ble_eq_true rfl) rfl rfl (List.mem_cons_of_mem _ (List.mem_append_left _ (List.mem_of_getElem? (i := 2) rfl))) (Or.inl rfl) dX12_reading_59 ?_
        refine go_iload_n hC dX12_reading_62 rfl 2 rfl ?_
        obtain ⟨g_5, hf⟩ := ga_e hf
        obtain ⟨h_6, eh_6, hf⟩ := lt_e hf
        refine go_iast hC (b_66 _) g_5 dX12_reading_63 ?_
        refine go_toph eh_6 ?_
        refine go_aload_n hC dX12_reading_64 rfl 0 rfl ?_
        refine go_dup hC dX12_reading_65 rfl ?_
        refine go_geti hC (j := 37) (idx := 176) (nm := "readings") (ds := "I") (b_43 _) rfl rfl hn12 (Nat.le_of_ble_eq_true rfl) rfl rfl (List.mem_cons_of_mem _ (List.mem_append_left _ (List.mem_of_getElem? (i := 2) rfl))) (Or.inl rfl) dX12_reading_66 ?_
        refine go_iconst hC dX12_reading_69 k1_1 ?_
        refine go_iadd hC dX12_reading_70 ?_
        obtain ⟨h_7, eh_7, hf⟩ := lt_e hf
        refine go_puti hC tyX12 (j := 37) (idx := 176) (nm := "readings") (ds := "I") (b_43 _) rfl rfl hn12 tyX12_ok nmX12 (Nat.le_of_ble_eq_true rfl) rfl rfl (List.mem_cons_of_mem _ (List.mem_append_left _ (List.mem_of_getElem? (i := 2) rfl))) (Or.inl rfl) rfl (tyX12_ok _ (Nat.le_of_ble_eq_true rfl)) dX12_reading_71 ?_
        refine go_toph eh_7 ?_
        refine go_aload_n hC dX12_reading_74 rfl 0 rfl ?_
        refine go_geti hC (j := 37) (idx := 176) (nm := "readings") (ds := "I") (b_43 _) rfl rfl hn12 (Nat.le_of_ble_eq_true rfl) rfl rfl (List.mem_cons_of_mem _ (List.mem_append_left _ (List.mem_of_getElem? (i := 2) rfl))) (Or.inl rfl) dX12_reading_75 ?_
        refine go_iconst hC dX12_reading_78 k1_1 ?_
        refine go_isub hC dX12_reading_79 ?_
        obtain ⟨rfl, rfl⟩ := so_2 hf
        exact hret _ _ rfl dX12_reading_80
      · replace hf := if_t c_8 hf
        refine go_bipush hC dX12_reading_41 k8_m4 ?_
        obtain ⟨rfl, rfl⟩ := so_2 hf
        exact hret _ _ rfl dX12_reading_43
    · replace hf := if_t c_9 hf
      refine go_bipush hC dX12_reading_29 k8_m2 ?_
      obtain ⟨rfl, rfl⟩ := so_2 hf
      exact hret _ _ rfl dX12_reading_31
def f_X12_back (x1 : Int32) (h : PH) : Option (Int32 × PH) :=
  bd_1 (f_X12_in x1.toInt64 0 ((h.1 43 37).toInt64) h) fun r_1 =>
  if r_1 = 0 then (
  some ((-2), h))
  else (
  lt_b (ph_i h 43 37 ((h.1 43 37) - x1)) fun h_2 =>
  some (h_2.1 43 37, h_2))
theorem e_X12_back : yX12_back.cls = RX12 ∧ yX12_back.cls ≠ "java/lang/invoke/MethodHandle" ∧ yX12_back.cls ≠ "java/lang/invoke/VarHandle" ∧ (parseMethodDescriptor yX12_back.desc).map (fun d => d.parameters.length) = some 1 := by decide +kernel
set_option maxRecDepth 100000 in
set_option maxHeartbeats 4000000 in
theorem c_X12_back (x1 : Int32) (h : PH) (h2 : PH) (r : Int32) (hf : f_X12_back x1 h = some (r, h2)) : Con yX12_back wsX12_back (rm_d 1) l0_B [.ref 43, .int x1] h (some (.int r)) h2 := by
  have hn12 : ∀ w ∈ wsX120, w ∈ wsX12_back := (fun _ hw => (List.mem_cons_of_mem _ (List.mem_append_right _ hw)))
  refine con_i (ty := .int) (cc := cX12_back) (nL := 2) (by decide) rfl (Nat.le_of_ble_eq_true rfl) ?_
  intro C hC hret
  change Go l0_B C 0 0 0 [(0, .ref 43), (1, .int x1)] [] h
  unfold f_X12_back at hf
  refine go_iload_n hC dX12_back_0 rfl 1 rfl ?_
  refine go_i2l hC dX12_back_1 ?_
  refine go_lconst hC dX12_back_2 (v := 0) rfl ?_
  refine go_aload_n hC dX12_back_3 rfl 0 rfl ?_
  refine go_geti hC (j := 37) (idx := 176) (nm := "readings") (ds := "I") (b_43 _) rfl rfl hn12 (Nat.le_of_ble_eq_true rfl) rfl rfl (List.mem_cons_of_mem _ (List.mem_append_left _ (List.mem_of_getElem? (i := 0) rfl))) (Or.inl rfl) dX12_back_4 ?_
  refine go_i2l hC dX12_back_7 ?_
  obtain ⟨r_1, hc, hf⟩ := bd_e1 hf
  refine go_callS hC (c_X12_in x1.toInt64 0 ((h.1 43 37).toInt64) h r_1 hc) gX12_back_X12_in rfl ⟨rfl, rfl⟩ 3 e_X12_in ⟨Nat.le_of_ble_eq_true rfl, Nat.le_of_ble_eq_true rfl⟩ rfl (st := []) (st1 := [.int r_1]) rfl rfl (Nat.le_of_ble_eq_true rfl) ⟨Nat.zero_le _, Nat.zero_le _⟩ dX12_back_8 ?_
  refine go_if_ne hC dX12_back_11 (tgt := 17) (by decide) (fun c_3 => ?_) (fun c_3 => ?_)
  · replace hf := if_f c_3 hf
    refine go_aload_n hC dX12_back_17 rfl 0 rfl ?_
    refine go_dup hC dX12_back_18 rfl ?_
    refine go_geti hC (j := 37) (idx := 176) (nm := "readings") (ds := "I") (b_43 _) rfl rfl hn12 (Nat.le_of_ble_eq_true rfl) rfl rfl (List.mem_cons_of_mem _ (List.mem_append_left _ (List.mem_of_getElem? (i := 0) rfl))) (Or.inl rfl) dX12_back_19 ?_
    refine go_iload_n hC dX12_back_22 rfl 1 rfl ?_
    refine go_isub hC dX12_back_23 ?_
    obtain ⟨h_2, eh_2, hf⟩ := lt_e hf
    refine go_puti hC tyX12 (j := 37) (idx := 176) (nm := "readings") (ds := "I") (b_43 _) rfl rfl hn12 tyX12_ok nmX12 (Nat.le_of_ble_eq_true rfl) rfl rfl (List.mem_cons_of_mem _ (List.mem_append_left _ (List.mem_of_getElem? (i := 0) rfl))) (Or.inl rfl) rfl (tyX12_ok _ (Nat.le_of_ble_eq_true rfl)) dX12_back_24 ?_
    refine go_toph eh_2 ?_
    refine go_aload_n hC dX12_back_27 rfl 0 rfl ?_
    refine go_geti hC (j := 37) (idx := 176) (nm := "readings") (ds := "I") (b_43 _) rfl rfl hn12 (Nat.le_of_ble_eq_true rfl) rfl rfl (List.mem_cons_of_mem _ (List.mem_append_left _ (List.mem_of_getElem? (i := 0) rfl))) (Or.inl rfl) dX12_back_28 ?_
    obtain ⟨rfl, rfl⟩ := so_2 hf
    exact hret _ _ rfl dX12_back_31
  · replace hf := if_t c_3 hf
    refine go_bipush hC dX12_back_14 k8_m2 ?_
    obtain ⟨rfl, rfl⟩ := so_2 hf
    exact hret _ _ rfl dX12_back_16
def lb_X12_doesFit_4 (x1 : Int32) (h : PH) (x2 : Int32) (x3 : Int32) : Option ((Int32 × Int32) ⊕ (Int32 × Int32)) :=
  if (h.1 43 37) ≤ x3 then (
  some (.inr (x2, x3)))
  else (
  if x2 = 0 then (
  some (.inr (x2, x3)))
  else (
  ga_i x3 12 (
  bd_1 (f_X12_loadsOf (x1 &&& (h.1 65 x3.toNatClampNeg)) h) fun r_10 =>
  ga_i x3 12 (
  if r_10 = (h.1 66 x3.toNatClampNeg) then (
  lt_b (x3 + 1) fun x3_13 =>
  some (.inl (1, x3_13)))
  else (
  lt_b (x3 + 1) fun x3_12 =>
  some (.inl (0, x3_12)))))))
def f_X12_doesFit (x1 : Int32) (h : PH) : Option (Int32) :=
  bd_1 (lp_f (fun s => lb_X12_doesFit_4 x1 h s.1 s.2) fu_l (1, 0)) fun s_17 =>
  gb_i s_17.1 (
  some s_17.1)
set_option maxRecDepth 100000 in
set_option maxHeartbeats 4000000 in
theorem lw_X12_doesFit_4 {C : GC} (hC : Cx C cX12_doesFit 4 wsX12_doesFit RX12 (some .boolean) (rm_d 2)) (x1 : Int32) (h : PH) : ∀ (n9 : Nat) (x2 : Int32) (x3 : Int32) (y : Int32 × Int32), lp_f (fun s => lb_X12_doesFit_4 x1 h s.1 s.2) n9 (x2, x3) = some y → ∀ (hk : Go l0_B C 0 0 49 [(2, .int y.1)] [] h), Go l0_B C 0 0 4 [(0, .ref 43), (1, .int x1), (2, .int x2), (3, .int x3)] [] h := by
  have hn12 : ∀ w ∈ wsX120, w ∈ wsX12_doesFit := (fun _ hw => (List.mem_cons_of_mem _ (List.mem_append_right _ hw)))
  intro n9
  induction n9 with
  | zero =>
    intro x2 x3 y hlp
    cases hlp
  | succ n9 ih =>
    intro x2 x3 y hlp hk
    obtain ⟨k9, z, hk9, hf, hy⟩ := lp_e hlp
    cases hk9
    replace hf : lb_X12_doesFit_4 x1 h x2 x3 = some z := hf
    unfold lb_X12_doesFit_4 at hf
    refine go_iload_n hC dX12_doesFit_4 rfl 3 rfl ?_
    refine go_aload_n hC dX12_doesFit_5 rfl 0 rfl ?_
    refine go_geti hC (j := 37) (idx := 176) (nm := "readings") (ds := "I") (b_43 _) rfl rfl hn12 (Nat.le_of_ble_eq_true rfl) rfl rfl (List.mem_cons_of_mem _ (List.mem_append_left _ (List.mem_of_getElem? (i := 0) rfl))) (Or.inl rfl) dX12_doesFit_6 ?_
    refine go_icmp_ge hC dX12_doesFit_9 (tgt := 49) (by decide) (fun c_16 => ?_) (fun c_16 => ?_)
    · replace hf := if_t c_16 hf
      obtain rfl := so_1 hf
      obtain rfl := lp_x hy
      refine go_sub [2] rfl ?_
      exact hk
    · replace hf := if_f c_16 hf
      refine go_iload_n hC dX12_doesFit_12 rfl 2 rfl ?_
      refine go_if_eq hC dX12_doesFit_13 (tgt := 49) (by decide) (fun c_15 => ?_) (fun c_15 => ?_)
      · replace hf := if_t c_15 hf
        obtain rfl := so_1 hf
        obtain rfl := lp_x hy
        refine go_sub [2] rfl ?_
        exact hk
      · replace hf := if_f c_15 hf
        refine go_aload_n hC dX12_doesFit_16 rfl 0 rfl ?_
        refine go_iload_n hC dX12_doesFit_17 rfl 1 rfl ?_
        refine go_aload_n hC dX12_doesFit_18 rfl 0 rfl ?_
        refine go_getr hC (j := 38) (idx := 75) (nm := "readingSet") (ds := "[I") (b_43 _) rfl rfl hn12 (Nat.le_of_ble_eq_true rfl) rfl rfl (List.mem_cons_of_mem _ (List.mem_append_left _ (List.mem_of_getElem? (i := 1) rfl))) (Or.inl rfl) dX12_doesFit_19 ?_
        refine go_iload_n hC dX12_doesFit_22 rfl 3 rfl ?_
        obtain ⟨g_9, hf⟩ := ga_e hf
        refine go_iald hC (b_65 _) g_9 dX12_doesFit_23 ?_
        refine go_iand hC dX12_doesFit_24 ?_
        obtain ⟨r_10, hc, hf⟩ := bd_e1 hf
        refine go_callV hC (c_X12_loadsOf (x1 &&& (h.1 65 x3.toNatClampNeg)) h r_10 hc) gX12_doesFit_X12_loadsOf rfl ⟨rfl, rfl⟩ 1 e_X12_loadsOf ⟨Nat.le_of_ble_eq_true rfl, Nat.le_of_ble_eq_true rfl⟩ (b_43 _) rfl rfl (st := []) (st1 := [.int r_10]) rfl rfl (Nat.le_of_ble_eq_true rfl) ⟨Nat.zero_le _, Nat.zero_le _⟩ dX12_doesFit_25 ?_
        refine go_aload_n hC dX12_doesFit_28 rfl 0 rfl ?_
        refine go_getr hC (j := 39) (idx := 78) (nm := "readingShows") (ds := "[I") (b_43 _) rfl rfl hn12 (Nat.le_of_ble_eq_true rfl) rfl rfl (List.mem_cons_of_mem _ (List.mem_append_left _ (List.mem_of_getElem? (i := 2) rfl))) (Or.inl rfl) dX12_doesFit_29 ?_
        refine go_iload_n hC dX12_doesFit_32 rfl 3 rfl ?_
        obtain ⟨g_11, hf⟩ := ga_e hf
        refine go_iald hC (b_66 _) g_11 dX12_doesFit_33 ?_
        refine go_icmp_ne hC dX12_doesFit_34 (tgt := 41) (by decide) (fun c_14 => ?_) (fun c_14 => ?_)
        · replace hf := if_f c_14 hf
          refine go_iconst hC dX12_doesFit_41 k1_0 ?_
          refine go_istore_n hC dX12_doesFit_42 rfl (Nat.le_of_ble_eq_true rfl) rfl ?_
          obtain ⟨x3_12, ex3_12, hf⟩ := lt_e hf
          refine go_iinc hC dX12_doesFit_43 3 rfl k1_1 ex3_12 (Nat.le_of_ble_eq_true rfl) rfl ?_
          refine go_goto hC dX12_doesFit_46 (tgt := 4) (by decide) ?_
          obtain rfl := so_1 hf
          refine go_sub [2, 3, 1, 0] rfl ?_
          exact ih 0 x3_12 _ (lp_c hy) hk
        · replace hf := if_t c_14 hf
          refine go_iconst hC dX12_doesFit_37 k1_1 ?_
          refine go_goto hC dX12_doesFit_38 (tgt := 42) (by decide) ?_
          refine go_istore_n hC dX12_doesFit_42 rfl (Nat.le_of_ble_eq_true rfl) rfl ?_
          obtain ⟨x3_13, ex3_13, hf⟩ := lt_e hf
          refine go_iinc hC dX12_doesFit_43 3 rfl k1_1 ex3_13 (Nat.le_of_ble_eq_true rfl) rfl ?_
          refine go_goto hC dX12_doesFit_46 (tgt := 4) (by decide) ?_
          obtain rfl := so_1 hf
          refine go_sub [2, 3, 1, 0] rfl ?_
          exact ih 1 x3_13 _ (lp_c hy) hk
theorem e_X12_doesFit : yX12_doesFit.cls = RX12 ∧ yX12_doesFit.cls ≠ "java/lang/invoke/MethodHandle" ∧ yX12_doesFit.cls ≠ "java/lang/invoke/VarHandle" ∧ (parseMethodDescriptor yX12_doesFit.desc).map (fun d => d.parameters.length) = some 1 := by decide +kernel
set_option maxRecDepth 100000 in
set_option maxHeartbeats 4000000 in
theorem c_X12_doesFit (x1 : Int32) (h : PH) (r : Int32) (hf : f_X12_doesFit x1 h = some r) : Con yX12_doesFit wsX12_doesFit (rm_d 2) l0_B [.ref 43, .int x1] h (some (.int r)) h := by
  have hn12 : ∀ w ∈ wsX120, w ∈ wsX12_doesFit := (fun _ hw => (List.mem_cons_of_mem _ (List.mem_append_right _ hw)))
  refine con_i (ty := .boolean) (cc := cX12_doesFit) (nL := 4) (by decide) rfl (Nat.le_of_ble_eq_true rfl) ?_
  intro C hC hret
  change Go l0_B C 0 0 0 [(0, .ref 43), (1, .int x1)] [] h
  unfold f_X12_doesFit at hf
  refine go_iconst hC dX12_doesFit_0 k1_1 ?_
  refine go_istore_n hC dX12_doesFit_1 rfl (Nat.le_of_ble_eq_true rfl) rfl ?_
  refine go_iconst hC dX12_doesFit_2 k1_0 ?_
  refine go_istore_n hC dX12_doesFit_3 rfl (Nat.le_of_ble_eq_true rfl) rfl ?_
  obtain ⟨s_17, hl, hf⟩ := bd_e1 hf
  refine go_sub [2, 3, 1, 0] rfl ?_
  refine lw_X12_doesFit_4 hC x1 h _ 1 0 s_17 hl ?_
  refine go_iload_n hC dX12_doesFit_49 rfl 0 rfl ?_
  obtain ⟨g_18, hf⟩ := gb_e hf
  obtain rfl := so_1 hf
  exact hret _ _ (zo_n g_18) dX12_doesFit_50
def lb_X12_fits_35 (x1 : Int32) (x2 : Int32) (h : PH) (x3 : Int32) (x4 : Int32) (x5 : Int32) (x6 : Int32) : Option ((Int32 × Int32 × Int32 × Int32) ⊕ (Int32 × Int32 × Int32 × Int32)) :=
  if x2 < x6 then (
  some (.inr (x3, x4, x5, x6)))
  else (
  bd_1 (f_X12_doesFit x6 h) fun r_11 =>
  if r_11 = 0 then (
  lt_b (x6 + 1) fun x6_12 =>
  some (.inl (x3, x4, x5, x6_12)))
  else (
  lt_b (x3 + 1) fun x3_13 =>
  lt_b (x4 &&& x6) fun x4_14 =>
  lt_b (x5 ||| x6) fun x5_15 =>
  lt_b (x6 + 1) fun x6_16 =>
  some (.inl (x3_13, x4_14, x5_15, x6_16))))
def f_X12_fits (x1 : Int32) (h : PH) : Option (Int32) :=
  bd_1 (f_X12_in x1.toInt64 0 2 h) fun r_1 =>
  if r_1 = 0 then (
  some (-2))
  else (
  lt_b (((1 : Int32) <<< ((h.1 43 19) &&& 31)) - 1) fun x2_2 =>
  bd_1 (lp_f (fun s => lb_X12_fits_35 x1 x2_2 h s.1 s.2.1 s.2.2.1 s.2.2.2) fu_l (0, x2_2, 0, 0)) fun s_19 =>
  if x1 = 0 then (
  some s_19.1)
  else (
  if s_19.1 = 0 then (
  some 0)
  else (
  if x1 = 1 then (
  some s_19.2.1)
  else (
  some (x2_2 &&& (s_19.2.2.1 ^^^ (-1)))))))
set_option maxRecDepth 100000 in
set_option maxHeartbeats 4000000 in
theorem lw_X12_fits_35 {C : GC} (hC : Cx C cX12_fits 7 wsX12_fits RX12 (some .int) (rm_d 3)) (x1 : Int32) (x2 : Int32) (h : PH) : ∀ (n9 : Nat) (x3 : Int32) (x4 : Int32) (x5 : Int32) (x6 : Int32) (y : Int32 × Int32 × Int32 × Int32), lp_f (fun s => lb_X12_fits_35 x1 x2 h s.1 s.2.1 s.2.2.1 s.2.2.2) n9 (x3, x4, x5, x6) = some y → ∀ (hk : Go l0_B C 0 0 73 [(1, .int x1), (2, .int x2), (3, .int y.1), (4, .int y.2.1), (5, .int y.2.2.1)] [] h), Go l0_B C 0 0 35 [(0, .ref 43), (1, .int x1), (2, .int x2), (3, .int x3), (4, .int x4), (5, .int x5), (6, .int x6)] [] h := by
  have hn12 : ∀ w ∈ wsX120, w ∈ wsX12_fits := (fun _ hw => (List.mem_cons_of_mem _ (List.mem_append_right _ hw)))
  intro n9
  induction n9 with
  | zero =>
    intro x3 x4 x5 x6 y hlp
    cases hlp
  | succ n9 ih =>
    intro x3 x4 x5 x6 y hlp hk
    obtain ⟨k9, z, hk9, hf, hy⟩ := lp_e hlp
    cases hk9
    replace hf : lb_X12_fits_35 x1 x2 h x3 x4 x5 x6 = some z := hf
    unfold lb_X12_fits_35 at hf
    refine go_iload hC dX12_fits_35 6 rfl ?_
    refine go_iload_n hC dX12_fits_37 rfl 2 rfl ?_
    refine go_icmp_gt hC dX12_fits_38 (tgt := 73) (by decide) (fun c_18 => ?_) (fun c_18 => ?_)
    · replace hf := if_t c_18 hf
      obtain rfl := so_1 hf
      obtain rfl := lp_x hy
      refine go_sub [1, 2, 3, 4, 5] rfl ?_
      exact hk
    · replace hf := if_f c_18 hf
      refine go_aload_n hC dX12_fits_41 rfl 0 rfl ?_
      refine go_iload hC dX12_fits_42 6 rfl ?_
      obtain ⟨r_11, hc, hf⟩ := bd_e1 hf
      refine go_callV hC (c_X12_doesFit x6 h r_11 hc) gX12_fits_X12_doesFit rfl ⟨rfl, rfl⟩ 1 e_X12_doesFit ⟨Nat.le_of_ble_eq_true rfl, Nat.le_of_ble_eq_true rfl⟩ (b_43 _) rfl rfl (st := []) (st1 := [.int r_11]) rfl rfl (Nat.le_of_ble_eq_true rfl) ⟨Nat.zero_le _, Nat.zero_le _⟩ dX12_fits_44 ?_
      refine go_if_eq hC dX12_fits_47 (tgt := 67) (by decide) (fun c_17 => ?_) (fun c_17 => ?_)
      · replace hf := if_t c_17 hf
        obtain ⟨x6_12, ex6_12, hf⟩ := lt_e hf
        refine go_iinc hC dX12_fits_67 6 rfl k1_1 ex6_12 (Nat.le_of_ble_eq_true rfl) rfl ?_
        refine go_goto hC dX12_fits_70 (tgt := 35) (by decide) ?_
        obtain rfl := so_1 hf
        refine go_sub [1, 2, 3, 4, 5, 6, 0] rfl ?_
        exact ih x3 x4 x5 x6_12 _ (lp_c hy) hk
      · replace hf := if_f c_17 hf
        obtain ⟨x3_13, ex3_13, hf⟩ := lt_e hf
        refine go_iinc hC dX12_fits_50 3 rfl k1_1 ex3_13 (Nat.le_of_ble_eq_true rfl) rfl ?_
        refine go_iload hC dX12_fits_53 4 rfl ?_
        refine go_iload hC dX12_fits_55 6 rfl ?_
        refine go_iand hC dX12_fits_57 ?_
        obtain ⟨x4_14, ex4_14, hf⟩ := lt_e hf
        refine go_topi ex4_14 ?_
        refine go_istore hC dX12_fits_58 (Nat.le_of_ble_eq_true rfl) rfl ?_
        refine go_iload hC dX12_fits_60 5 rfl ?_
        refine go_iload hC dX12_fits_62 6 rfl ?_
        refine go_ior hC dX12_fits_64 ?_
        obtain ⟨x5_15, ex5_15, hf⟩ := lt_e hf
        refine go_topi ex5_15 ?_
        refine go_istore hC dX12_fits_65 (Nat.le_of_ble_eq_true rfl) rfl ?_
        obtain ⟨x6_16, ex6_16, hf⟩ := lt_e hf
        refine go_iinc hC dX12_fits_67 6 rfl k1_1 ex6_16 (Nat.le_of_ble_eq_true rfl) rfl ?_
        refine go_goto hC dX12_fits_70 (tgt := 35) (by decide) ?_
        obtain rfl := so_1 hf
        refine go_sub [4, 5, 6, 3, 2, 1, 0] rfl ?_
        exact ih x3_13 x4_14 x5_15 x6_16 _ (lp_c hy) hk
theorem e_X12_fits : yX12_fits.cls = RX12 ∧ yX12_fits.cls ≠ "java/lang/invoke/MethodHandle" ∧ yX12_fits.cls ≠ "java/lang/invoke/VarHandle" ∧ (parseMethodDescriptor yX12_fits.desc).map (fun d => d.parameters.length) = some 1 := by decide +kernel
set_option maxRecDepth 100000 in
set_option maxHeartbeats 4000000 in
theorem c_X12_fits (x1 : Int32) (h : PH) (r : Int32) (hf : f_X12_fits x1 h = some r) : Con yX12_fits wsX12_fits (rm_d 3) l0_B [.ref 43, .int x1] h (some (.int r)) h := by
  have hn12 : ∀ w ∈ wsX120, w ∈ wsX12_fits := (fun _ hw => (List.mem_cons_of_mem _ (List.mem_append_right _ hw)))
  refine con_i (ty := .int) (cc := cX12_fits) (nL := 7) (by decide) rfl (Nat.le_of_ble_eq_true rfl) ?_
  intro C hC hret
  change Go l0_B C 0 0 0 [(0, .ref 43), (1, .int x1)] [] h
  unfold f_X12_fits at hf
  refine go_iload_n hC dX12_fits_0 rfl 1 rfl ?_
  refine go_i2l hC dX12_fits_1 ?_
  refine go_lconst hC dX12_fits_2 (v := 0) rfl ?_
  refine go_ldc2 hC (v := 2) (List.mem_cons_of_mem _ (List.mem_append_left _ (List.mem_of_getElem? (i := 0) rfl))) dX12_fits_3 ?_
  obtain ⟨r_1, hc, hf⟩ := bd_e1 hf
  refine go_callS hC (c_X12_in x1.toInt64 0 2 h r_1 hc) gX12_fits_X12_in rfl ⟨rfl, rfl⟩ 3 e_X12_in ⟨Nat.le_of_ble_eq_true rfl, Nat.le_of_ble_eq_true rfl⟩ rfl (st := []) (st1 := [.int r_1]) rfl rfl (Nat.le_of_ble_eq_true rfl) ⟨Nat.zero_le _, Nat.zero_le _⟩ dX12_fits_6 ?_
  refine go_if_ne hC dX12_fits_9 (tgt := 15) (by decide) (fun c_23 => ?_) (fun c_23 => ?_)
  · replace hf := if_f c_23 hf
    refine go_iconst hC dX12_fits_15 k1_1 ?_
    refine go_aload_n hC dX12_fits_16 rfl 0 rfl ?_
    refine go_geti hC (j := 19) (idx := 170) (nm := "points") (ds := "I") (b_43 _) rfl rfl hn12 (Nat.le_of_ble_eq_true rfl) rfl rfl (List.mem_cons_of_mem _ (List.mem_append_left _ (List.mem_of_getElem? (i := 1) rfl))) (Or.inl rfl) dX12_fits_17 ?_
    refine go_ishl hC dX12_fits_20 ?_
    refine go_iconst hC dX12_fits_21 k1_1 ?_
    refine go_isub hC dX12_fits_22 ?_
    obtain ⟨x2_2, ex2_2, hf⟩ := lt_e hf
    refine go_topi ex2_2 ?_
    refine go_istore_n hC dX12_fits_23 rfl (Nat.le_of_ble_eq_true rfl) rfl ?_
    refine go_iconst hC dX12_fits_24 k1_0 ?_
    refine go_istore_n hC dX12_fits_25 rfl (Nat.le_of_ble_eq_true rfl) rfl ?_
    refine go_iload_n hC dX12_fits_26 rfl 1 rfl ?_
    refine go_istore hC dX12_fits_27 (Nat.le_of_ble_eq_true rfl) rfl ?_
    refine go_iconst hC dX12_fits_29 k1_0 ?_
    refine go_istore hC dX12_fits_30 (Nat.le_of_ble_eq_true rfl) rfl ?_
    refine go_iconst hC dX12_fits_32 k1_0 ?_
    refine go_istore hC dX12_fits_33 (Nat.le_of_ble_eq_true rfl) rfl ?_
    obtain ⟨s_19, hl, hf⟩ := bd_e1 hf
    refine go_sub [5, 6, 4, 3, 2, 1, 0] rfl ?_
    refine lw_X12_fits_35 hC x1 x2_2 h _ 0 x2_2 0 0 s_19 hl ?_
    refine go_iload_n hC dX12_fits_73 rfl 0 rfl ?_
    refine go_if_ne hC dX12_fits_74 (tgt := 81) (by decide) (fun c_22 => ?_) (fun c_22 => ?_)
    · replace hf := if_f c_22 hf
      refine go_iload_n hC dX12_fits_81 rfl 2 rfl ?_
      refine go_if_ne hC dX12_fits_82 (tgt := 89) (by decide) (fun c_21 => ?_) (fun c_21 => ?_)
      · replace hf := if_f c_21 hf
        refine go_iload_n hC dX12_fits_89 rfl 0 rfl ?_
        refine go_iconst hC dX12_fits_90 k1_1 ?_
        refine go_icmp_ne hC dX12_fits_91 (tgt := 99) (by decide) (fun c_20 => ?_) (fun c_20 => ?_)
        · replace hf := if_f c_20 hf
          refine go_iload_n hC dX12_fits_99 rfl 1 rfl ?_
          refine go_iload hC dX12_fits_100 4 rfl ?_
          refine go_iconst hC dX12_fits_102 k1_m1 ?_
          refine go_ixor hC dX12_fits_103 ?_
          refine go_iand hC dX12_fits_104 ?_
          obtain rfl := so_1 hf
          exact hret _ _ rfl dX12_fits_105
        · replace hf := if_t c_20 hf
          refine go_iload hC dX12_fits_94 3 rfl ?_
          refine go_goto hC dX12_fits_96 (tgt := 105) (by decide) ?_
          obtain rfl := so_1 hf
          exact hret _ _ rfl dX12_fits_105
      · replace hf := if_t c_21 hf
        refine go_iconst hC dX12_fits_85 k1_0 ?_
        refine go_goto hC dX12_fits_86 (tgt := 105) (by decide) ?_
        obtain rfl := so_1 hf
        exact hret _ _ rfl dX12_fits_105
    · replace hf := if_t c_22 hf
      refine go_iload_n hC dX12_fits_77 rfl 2 rfl ?_
      refine go_goto hC dX12_fits_78 (tgt := 105) (by decide) ?_
      obtain rfl := so_1 hf
      exact hret _ _ rfl dX12_fits_105
  · replace hf := if_t c_23 hf
    refine go_bipush hC dX12_fits_12 k8_m2 ?_
    obtain rfl := so_1 hf
    exact hret _ _ rfl dX12_fits_14
def lb_X12_next_37 (x1 : Int32) (x2 : Int32) (x3 : Int32) (x4 : Int32) (h : PH) (x5 : Int32) (x6 : Int32) : Option ((Int32 × Int32) ⊕ (Int32 × Int32)) :=
  if ((1 : Int32) <<< ((h.1 43 19) &&& 31)) ≤ x6 then (
  some (.inr (x5, x6)))
  else (
  bd_1 (f_X12_hasBit x6 x4 h) fun r_13 =>
  if r_13 = 0 then (
  lt_b (x5 + 0) fun x5_14 =>
  lt_b (x6 + 1) fun x6_15 =>
  some (.inl (x5_14, x6_15)))
  else (
  bd_1 (f_X12_doesFit x6 h) fun r_16 =>
  if r_16 = 0 then (
  lt_b (x5 + 0) fun x5_17 =>
  lt_b (x6 + 1) fun x6_18 =>
  some (.inl (x5_17, x6_18)))
  else (
  lt_b (x5 + 1) fun x5_19 =>
  lt_b (x6 + 1) fun x6_20 =>
  some (.inl (x5_19, x6_20)))))
def lb_X12_next_22 (x1 : Int32) (h : PH) (x2 : Int32) (x3 : Int32) (x4 : Int32) : Option ((Int32 × Int32 × Int32) ⊕ (Int32 × Int32 × Int32)) :=
  if (h.1 43 19) ≤ x4 then (
  some (.inr (x2, x3, x4)))
  else (
  bd_1 (lp_f (fun s => lb_X12_next_37 x1 x2 x3 x4 h s.1 s.2) fu_l (0, 0)) fun s_38 =>
  if s_38.1 ≤ (x1 - s_38.1) then (
  lt_b (x1 - s_38.1) fun x6_39 =>
  if x2 < 0 then (
  lt_b (x4 + 1) fun x4_40 =>
  some (.inl (x4, x6_39, x4_40)))
  else (
  if x3 ≤ x6_39 then (
  lt_b (x4 + 1) fun x4_41 =>
  some (.inl (x2, x3, x4_41)))
  else (
  lt_b (x4 + 1) fun x4_42 =>
  some (.inl (x4, x6_39, x4_42)))))
  else (
  if x2 < 0 then (
  lt_b (x4 + 1) fun x4_45 =>
  some (.inl (x4, s_38.1, x4_45)))
  else (
  if x3 ≤ s_38.1 then (
  lt_b (x4 + 1) fun x4_46 =>
  some (.inl (x2, x3, x4_46)))
  else (
  lt_b (x4 + 1) fun x4_47 =>
  some (.inl (x4, s_38.1, x4_47))))))
def f_X12_next (h : PH) : Option (Int32) :=
  bd_1 (f_X12_fits 0 h) fun r_1 =>
  if 2 ≤ r_1 then (
  bd_1 (lp_f (fun s => lb_X12_next_22 r_1 h s.1 s.2.1 s.2.2) fu_l ((-9), 0, 0)) fun s_52 =>
  some s_52.1)
  else (
  some (-9))
set_option maxRecDepth 100000 in
set_option maxHeartbeats 4000000 in
theorem lw_X12_next_37 {C : GC} (hC : Cx C cX12_next 7 wsX12_next RX12 (some .int) (rm_d 4)) (x1 : Int32) (x2 : Int32) (x3 : Int32) (x4 : Int32) (h : PH) : ∀ (n9 : Nat) (x5 : Int32) (x6 : Int32) (y : Int32 × Int32), lp_f (fun s => lb_X12_next_37 x1 x2 x3 x4 h s.1 s.2) n9 (x5, x6) = some y → ∀ (hk : Go l0_B C 0 0 83 [(0, .ref 43), (1, .int x1), (2, .int x2), (3, .int x3), (4, .int x4), (5, .int y.1)] [] h), Go l0_B C 0 0 37 [(0, .ref 43), (1, .int x1), (2, .int x2), (3, .int x3), (4, .int x4), (5, .int x5), (6, .int x6)] [] h := by
  have hn12 : ∀ w ∈ wsX120, w ∈ wsX12_next := (fun _ hw => (List.mem_cons_of_mem _ (List.mem_append_right _ hw)))
  intro n9
  induction n9 with
  | zero =>
    intro x5 x6 y hlp
    cases hlp
  | succ n9 ih =>
    intro x5 x6 y hlp hk
    obtain ⟨k9, z, hk9, hf, hy⟩ := lp_e hlp
    cases hk9
    replace hf : lb_X12_next_37 x1 x2 x3 x4 h x5 x6 = some z := hf
    unfold lb_X12_next_37 at hf
    refine go_iload hC dX12_next_37 6 rfl ?_
    refine go_iconst hC dX12_next_39 k1_1 ?_
    refine go_aload_n hC dX12_next_40 rfl 0 rfl ?_
    refine go_geti hC (j := 19) (idx := 170) (nm := "points") (ds := "I") (b_43 _) rfl rfl hn12 (Nat.le_of_ble_eq_true rfl) rfl rfl (List.mem_cons_of_mem _ (List.mem_append_left _ (List.mem_append_left _ (List.mem_of_getElem? (i := 0) rfl)))) (Or.inl rfl) dX12_next_41 ?_
    refine go_ishl hC dX12_next_44 ?_
    refine go_icmp_ge hC dX12_next_45 (tgt := 83) (by decide) (fun c_23 => ?_) (fun c_23 => ?_)
    · replace hf := if_t c_23 hf
      obtain rfl := so_1 hf
      obtain rfl := lp_x hy
      refine go_sub [0, 1, 2, 3, 4, 5] rfl ?_
      exact hk
    · replace hf := if_f c_23 hf
      refine go_iload hC dX12_next_48 5 rfl ?_
      refine go_iload hC dX12_next_50 6 rfl ?_
      refine go_iload hC dX12_next_52 4 rfl ?_
      obtain ⟨r_13, hc, hf⟩ := bd_e1 hf
      refine go_callS hC (c_X12_hasBit x6 x4 h r_13 hc) gX12_next_X12_hasBit rfl ⟨rfl, rfl⟩ 2 e_X12_hasBit ⟨Nat.le_of_ble_eq_true rfl, Nat.le_of_ble_eq_true rfl⟩ rfl (st := [.int x5]) (st1 := [.int r_13, .int x5]) rfl rfl (Nat.le_of_ble_eq_true rfl) ⟨Nat.zero_le _, Nat.zero_le _⟩ dX12_next_54 ?_
      refine go_if_eq hC dX12_next_57 (tgt := 73) (by decide) (fun c_22 => ?_) (fun c_22 => ?_)
      · replace hf := if_t c_22 hf
        refine go_iconst hC dX12_next_73 k1_0 ?_
        refine go_iadd hC dX12_next_74 ?_
        obtain ⟨x5_14, ex5_14, hf⟩ := lt_e hf
        refine go_topi ex5_14 ?_
        refine go_istore hC dX12_next_75 (Nat.le_of_ble_eq_true rfl) rfl ?_
        obtain ⟨x6_15, ex6_15, hf⟩ := lt_e hf
        refine go_iinc hC dX12_next_77 6 rfl k1_1 ex6_15 (Nat.le_of_ble_eq_true rfl) rfl ?_
        refine go_goto hC dX12_next_80 (tgt := 37) (by decide) ?_
        obtain rfl := so_1 hf
        refine go_sub [2, 3, 4, 5, 6, 1, 0] rfl ?_
        exact ih x5_14 x6_15 _ (lp_c hy) hk
      · replace hf := if_f c_22 hf
        refine go_aload_n hC dX12_next_60 rfl 0 rfl ?_
        refine go_iload hC dX12_next_61 6 rfl ?_
        obtain ⟨r_16, hc, hf⟩ := bd_e1 hf
        refine go_callV hC (c_X12_doesFit x6 h r_16 hc) gX12_next_X12_doesFit rfl ⟨rfl, rfl⟩ 1 e_X12_doesFit ⟨Nat.le_of_ble_eq_true rfl, Nat.le_of_ble_eq_true rfl⟩ (b_43 _) rfl rfl (st := [.int x5]) (st1 := [.int r_16, .int x5]) rfl rfl (Nat.le_of_ble_eq_true rfl) ⟨Nat.zero_le _, Nat.zero_le _⟩ dX12_next_63 ?_
        refine go_if_eq hC dX12_next_66 (tgt := 73) (by decide) (fun c_21 => ?_) (fun c_21 => ?_)
        · replace hf := if_t c_21 hf
          refine go_iconst hC dX12_next_73 k1_0 ?_
          refine go_iadd hC dX12_next_74 ?_
          obtain ⟨x5_17, ex5_17, hf⟩ := lt_e hf
          refine go_topi ex5_17 ?_
          refine go_istore hC dX12_next_75 (Nat.le_of_ble_eq_true rfl) rfl ?_
          obtain ⟨x6_18, ex6_18, hf⟩ := lt_e hf
          refine go_iinc hC dX12_next_77 6 rfl k1_1 ex6_18 (Nat.le_of_ble_eq_true rfl) rfl ?_
          refine go_goto hC dX12_next_80 (tgt := 37) (by decide) ?_
          obtain rfl := so_1 hf
          refine go_sub [2, 3, 4, 5, 6, 1, 0] rfl ?_
          exact ih x5_17 x6_18 _ (lp_c hy) hk
        · replace hf := if_f c_21 hf
          refine go_iconst hC dX12_next_69 k1_1 ?_
          refine go_goto hC dX12_next_70 (tgt := 74) (by decide) ?_
          refine go_iadd hC dX12_next_74 ?_
          obtain ⟨x5_19, ex5_19, hf⟩ := lt_e hf
          refine go_topi ex5_19 ?_
          refine go_istore hC dX12_next_75 (Nat.le_of_ble_eq_true rfl) rfl ?_
          obtain ⟨x6_20, ex6_20, hf⟩ := lt_e hf
          refine go_iinc hC dX12_next_77 6 rfl k1_1 ex6_20 (Nat.le_of_ble_eq_true rfl) rfl ?_
          refine go_goto hC dX12_next_80 (tgt := 37) (by decide) ?_
          obtain rfl := so_1 hf
          refine go_sub [2, 3, 4, 5, 6, 1, 0] rfl ?_
          exact ih x5_19 x6_20 _ (lp_c hy) hk
set_option maxRecDepth 100000 in
set_option maxHeartbeats 4000000 in
theorem lw_X12_next_22 {C : GC} (hC : Cx C cX12_next 7 wsX12_next RX12 (some .int) (rm_d 4)) (x1 : Int32) (h : PH) : ∀ (n9 : Nat) (x2 : Int32) (x3 : Int32) (x4 : Int32) (y : Int32 × Int32 × Int32), lp_f (fun s => lb_X12_next_22 x1 h s.1 s.2.1 s.2.2) n9 (x2, x3, x4) = some y → ∀ (hk : Go l0_B C 0 0 125 [(2, .int y.1)] [] h), Go l0_B C 0 0 22 [(0, .ref 43), (1, .int x1), (2, .int x2), (3, .int x3), (4, .int x4)] [] h := by
  have hn12 : ∀ w ∈ wsX120, w ∈ wsX12_next := (fun _ hw => (List.mem_cons_of_mem _ (List.mem_append_right _ hw)))
  intro n9
  induction n9 with
  | zero =>
    intro x2 x3 x4 y hlp
    cases hlp
  | succ n9 ih =>
    intro x2 x3 x4 y hlp hk
    obtain ⟨k9, z, hk9, hf, hy⟩ := lp_e hlp
    cases hk9
    replace hf : lb_X12_next_22 x1 h x2 x3 x4 = some z := hf
    unfold lb_X12_next_22 at hf
    refine go_iload hC dX12_next_22 4 rfl ?_
    refine go_aload_n hC dX12_next_24 rfl 0 rfl ?_
    refine go_geti hC (j := 19) (idx := 170) (nm := "points") (ds := "I") (b_43 _) rfl rfl hn12 (Nat.le_of_ble_eq_true rfl) rfl rfl (List.mem_cons_of_mem _ (List.mem_append_left _ (List.mem_append_left _ (List.mem_of_getElem? (i := 0) rfl)))) (Or.inl rfl) dX12_next_25 ?_
    refine go_icmp_ge hC dX12_next_28 (tgt := 125) (by decide) (fun c_51 => ?_) (fun c_51 => ?_)
    · replace hf := if_t c_51 hf
      obtain rfl := so_1 hf
      obtain rfl := lp_x hy
      refine go_sub [2] rfl ?_
      exact hk
    · replace hf := if_f c_51 hf
      refine go_iconst hC dX12_next_31 k1_0 ?_
      refine go_istore hC dX12_next_32 (Nat.le_of_ble_eq_true rfl) rfl ?_
      refine go_iconst hC dX12_next_34 k1_0 ?_
      refine go_istore hC dX12_next_35 (Nat.le_of_ble_eq_true rfl) rfl ?_
      obtain ⟨s_38, hl, hf⟩ := bd_e1 hf
      refine go_sub [2, 3, 4, 5, 6, 1, 0] rfl ?_
      refine lw_X12_next_37 hC x1 x2 x3 x4 h _ 0 0 s_38 hl ?_
      refine go_iload hC dX12_next_83 5 rfl ?_
      refine go_iload_n hC dX12_next_85 rfl 1 rfl ?_
      refine go_iload hC dX12_next_86 5 rfl ?_
      refine go_isub hC dX12_next_88 ?_
      refine go_icmp_le hC dX12_next_89 (tgt := 97) (by decide) (fun c_50 => ?_) (fun c_50 => ?_)
      · replace hf := if_t c_50 hf
        refine go_iload_n hC dX12_next_97 rfl 1 rfl ?_
        refine go_iload hC dX12_next_98 5 rfl ?_
        refine go_isub hC dX12_next_100 ?_
        obtain ⟨x6_39, ex6_39, hf⟩ := lt_e hf
        refine go_topi ex6_39 ?_
        refine go_istore hC dX12_next_101 (Nat.le_of_ble_eq_true rfl) rfl ?_
        refine go_iload_n hC dX12_next_103 rfl 3 rfl ?_
        refine go_if_lt hC dX12_next_104 (tgt := 113) (by decide) (fun c_44 => ?_) (fun c_44 => ?_)
        · replace hf := if_t c_44 hf
          refine go_iload hC dX12_next_113 5 rfl ?_
          refine go_istore_n hC dX12_next_115 rfl (Nat.le_of_ble_eq_true rfl) rfl ?_
          refine go_iload hC dX12_next_116 1 rfl ?_
          refine go_istore_n hC dX12_next_118 rfl (Nat.le_of_ble_eq_true rfl) rfl ?_
          obtain ⟨x4_40, ex4_40, hf⟩ := lt_e hf
          refine go_iinc hC dX12_next_119 5 rfl k1_1 ex4_40 (Nat.le_of_ble_eq_true rfl) rfl ?_
          refine go_goto hC dX12_next_122 (tgt := 22) (by decide) ?_
          obtain rfl := so_1 hf
          refine go_sub [4, 5, 2, 1, 0] rfl ?_
          exact ih x4 x6_39 x4_40 _ (lp_c hy) hk
        · replace hf := if_f c_44 hf
          refine go_iload hC dX12_next_107 0 rfl ?_
          refine go_iload_n hC dX12_next_109 rfl 4 rfl ?_
          refine go_icmp_ge hC dX12_next_110 (tgt := 119) (by decide) (fun c_43 => ?_) (fun c_43 => ?_)
          · replace hf := if_t c_43 hf
            obtain ⟨x4_41, ex4_41, hf⟩ := lt_e hf
            refine go_iinc hC dX12_next_119 5 rfl k1_1 ex4_41 (Nat.le_of_ble_eq_true rfl) rfl ?_
            refine go_goto hC dX12_next_122 (tgt := 22) (by decide) ?_
            obtain rfl := so_1 hf
            refine go_sub [2, 3, 4, 5, 0] rfl ?_
            exact ih x2 x3 x4_41 _ (lp_c hy) hk
          · replace hf := if_f c_43 hf
            refine go_iload hC dX12_next_113 5 rfl ?_
            refine go_istore_n hC dX12_next_115 rfl (Nat.le_of_ble_eq_true rfl) rfl ?_
            refine go_iload hC dX12_next_116 1 rfl ?_
            refine go_istore_n hC dX12_next_118 rfl (Nat.le_of_ble_eq_true rfl) rfl ?_
            obtain ⟨x4_42, ex4_42, hf⟩ := lt_e hf
            refine go_iinc hC dX12_next_119 5 rfl k1_1 ex4_42 (Nat.le_of_ble_eq_true rfl) rfl ?_
            refine go_goto hC dX12_next_122 (tgt := 22) (by decide) ?_
            obtain rfl := so_1 hf
            refine go_sub [4, 5, 2, 1, 0] rfl ?_
            exact ih x4 x6_39 x4_42 _ (lp_c hy) hk
      · replace hf := if_f c_50 hf
        refine go_iload hC dX12_next_92 5 rfl ?_
        refine go_goto hC dX12_next_94 (tgt := 101) (by decide) ?_
        refine go_istore hC dX12_next_101 (Nat.le_of_ble_eq_true rfl) rfl ?_
        refine go_iload_n hC dX12_next_103 rfl 3 rfl ?_
        refine go_if_lt hC dX12_next_104 (tgt := 113) (by decide) (fun c_49 => ?_) (fun c_49 => ?_)
        · replace hf := if_t c_49 hf
          refine go_iload hC dX12_next_113 5 rfl ?_
          refine go_istore_n hC dX12_next_115 rfl (Nat.le_of_ble_eq_true rfl) rfl ?_
          refine go_iload hC dX12_next_116 1 rfl ?_
          refine go_istore_n hC dX12_next_118 rfl (Nat.le_of_ble_eq_true rfl) rfl ?_
          obtain ⟨x4_45, ex4_45, hf⟩ := lt_e hf
          refine go_iinc hC dX12_next_119 5 rfl k1_1 ex4_45 (Nat.le_of_ble_eq_true rfl) rfl ?_
          refine go_goto hC dX12_next_122 (tgt := 22) (by decide) ?_
          obtain rfl := so_1 hf
          refine go_sub [4, 5, 2, 1, 0] rfl ?_
          exact ih x4 s_38.1 x4_45 _ (lp_c hy) hk
        · replace hf := if_f c_49 hf
          refine go_iload hC dX12_next_107 0 rfl ?_
          refine go_iload_n hC dX12_next_109 rfl 4 rfl ?_
          refine go_icmp_ge hC dX12_next_110 (tgt := 119) (by decide) (fun c_48 => ?_) (fun c_48 => ?_)
          · replace hf := if_t c_48 hf
            obtain ⟨x4_46, ex4_46, hf⟩ := lt_e hf
            refine go_iinc hC dX12_next_119 5 rfl k1_1 ex4_46 (Nat.le_of_ble_eq_true rfl) rfl ?_
            refine go_goto hC dX12_next_122 (tgt := 22) (by decide) ?_
            obtain rfl := so_1 hf
            refine go_sub [2, 3, 4, 5, 0] rfl ?_
            exact ih x2 x3 x4_46 _ (lp_c hy) hk
          · replace hf := if_f c_48 hf
            refine go_iload hC dX12_next_113 5 rfl ?_
            refine go_istore_n hC dX12_next_115 rfl (Nat.le_of_ble_eq_true rfl) rfl ?_
            refine go_iload hC dX12_next_116 1 rfl ?_
            refine go_istore_n hC dX12_next_118 rfl (Nat.le_of_ble_eq_true rfl) rfl ?_
            obtain ⟨x4_47, ex4_47, hf⟩ := lt_e hf
            refine go_iinc hC dX12_next_119 5 rfl k1_1 ex4_47 (Nat.le_of_ble_eq_true rfl) rfl ?_
            refine go_goto hC dX12_next_122 (tgt := 22) (by decide) ?_
            obtain rfl := so_1 hf
            refine go_sub [4, 5, 2, 1, 0] rfl ?_
            exact ih x4 s_38.1 x4_47 _ (lp_c hy) hk
theorem e_X12_next : yX12_next.cls = RX12 ∧ yX12_next.cls ≠ "java/lang/invoke/MethodHandle" ∧ yX12_next.cls ≠ "java/lang/invoke/VarHandle" ∧ (parseMethodDescriptor yX12_next.desc).map (fun d => d.parameters.length) = some 0 := by decide +kernel
set_option maxRecDepth 100000 in
set_option maxHeartbeats 4000000 in
theorem c_X12_next (h : PH) (r : Int32) (hf : f_X12_next h = some r) : Con yX12_next wsX12_next (rm_d 4) l0_B [.ref 43] h (some (.int r)) h := by
  have hn12 : ∀ w ∈ wsX120, w ∈ wsX12_next := (fun _ hw => (List.mem_cons_of_mem _ (List.mem_append_right _ hw)))
  refine con_i (ty := .int) (cc := cX12_next) (nL := 7) (by decide) rfl (Nat.le_of_ble_eq_true rfl) ?_
  intro C hC hret
  change Go l0_B C 0 0 0 [(0, .ref 43)] [] h
  unfold f_X12_next at hf
  refine go_aload_n hC dX12_next_0 rfl 0 rfl ?_
  refine go_iconst hC dX12_next_1 k1_0 ?_
  obtain ⟨r_1, hc, hf⟩ := bd_e1 hf
  refine go_callV hC (c_X12_fits 0 h r_1 hc) gX12_next_X12_fits rfl ⟨rfl, rfl⟩ 1 e_X12_fits ⟨Nat.le_of_ble_eq_true rfl, Nat.le_of_ble_eq_true rfl⟩ (b_43 _) rfl rfl (st := []) (st1 := [.int r_1]) rfl rfl (Nat.le_of_ble_eq_true rfl) ⟨Nat.zero_le _, Nat.zero_le _⟩ dX12_next_2 ?_
  refine go_istore_n hC dX12_next_5 rfl (Nat.le_of_ble_eq_true rfl) rfl ?_
  refine go_iload_n hC dX12_next_6 rfl 0 rfl ?_
  refine go_iconst hC dX12_next_7 k1_2 ?_
  refine go_icmp_ge hC dX12_next_8 (tgt := 14) (by decide) (fun c_53 => ?_) (fun c_53 => ?_)
  · replace hf := if_t c_53 hf
    refine go_bipush hC dX12_next_14 k8_m9 ?_
    refine go_istore_n hC dX12_next_16 rfl (Nat.le_of_ble_eq_true rfl) rfl ?_
    refine go_iconst hC dX12_next_17 k1_0 ?_
    refine go_istore_n hC dX12_next_18 rfl (Nat.le_of_ble_eq_true rfl) rfl ?_
    refine go_iconst hC dX12_next_19 k1_0 ?_
    refine go_istore hC dX12_next_20 (Nat.le_of_ble_eq_true rfl) rfl ?_
    obtain ⟨s_52, hl, hf⟩ := bd_e1 hf
    refine go_sub [4, 3, 2, 1, 0] rfl ?_
    refine lw_X12_next_22 hC r_1 h _ (-9) 0 0 s_52 hl ?_
    refine go_iload_n hC dX12_next_125 rfl 0 rfl ?_
    obtain rfl := so_1 hf
    exact hret _ _ rfl dX12_next_126
  · replace hf := if_f c_53 hf
    refine go_bipush hC dX12_next_11 k8_m9 ?_
    obtain rfl := so_1 hf
    exact hret _ _ rfl dX12_next_13
def lb_X12_sheet_60 (x1 : Int32) (x3 : Int32) (x4 : Int32) (h : PH) : Option ((Int32 × PH) ⊕ (Int32 × PH)) :=
  if x3 ≤ x4 then (
  some (.inr (x4, h)))
  else (
  ga_i ((100 * x1) + x4) 400 (
  lt_b (ph_i h 69 ((100 * x1) + x4).toNatClampNeg 0) fun h_14 =>
  lt_b (x4 + 1) fun x4_15 =>
  some (.inl (x4_15, h_14))))
def f_X12_sheet (x1 : Int32) (x2 : Int32) (x3 : Int32) (h : PH) : Option (Int32 × PH) :=
  bd_1 (f_X12_noSheet x1 h) fun r_1 =>
  if r_1 = 0 then (
  bd_1 (f_X12_isLane x2 h) fun r_2 =>
  if r_2 = 0 then (
  bd_2 (f_X12_refused (-2) h) fun r_3 h_4 =>
  some (r_3, h_4))
  else (
  if x3 ≤ 100 then (
  if 0 ≤ x3 then (
  ga_i x1 4 (
  lt_b (ph_i h 67 x1.toNatClampNeg x3) fun h_6 =>
  ga_i x1 4 (
  lt_b (ph_i h_6 68 x1.toNatClampNeg x2) fun h_8 =>
  bd_1 (lp_f (fun s => lb_X12_sheet_60 x1 x3 s.1 s.2) fu_l (0, h_8)) fun s_17 =>
  bd_2 (f_X12_refused 1 s_17.2) fun r_18 h_19 =>
  some (r_18, h_19))))
  else (
  bd_2 (f_X12_failed 4 h) fun r_20 h_21 =>
  some (r_20, h_21)))
  else (
  bd_2 (f_X12_refused (-2) h) fun r_23 h_24 =>
  some (r_23, h_24))))
  else (
  bd_2 (f_X12_refused (-1) h) fun r_27 h_28 =>
  some (r_27, h_28))
set_option maxRecDepth 100000 in
set_option maxHeartbeats 4000000 in
theorem lw_X12_sheet_60 {C : GC} (hC : Cx C cX12_sheet 5 wsX12_sheet RX12 (some .int) (rm_d 2)) (x1 : Int32) (x3 : Int32) : ∀ (n9 : Nat) (x4 : Int32) (h : PH) (y : Int32 × PH), lp_f (fun s => lb_X12_sheet_60 x1 x3 s.1 s.2) n9 (x4, h) = some y → ∀ (hk : Go l0_B C 0 0 85 [(0, .ref 43)] [] y.2), Go l0_B C 0 0 60 [(0, .ref 43), (1, .int x1), (3, .int x3), (4, .int x4)] [] h := by
  have hn12 : ∀ w ∈ wsX120, w ∈ wsX12_sheet := (fun _ hw => (List.mem_cons_of_mem _ (List.mem_append_right _ hw)))
  intro n9
  induction n9 with
  | zero =>
    intro x4 h y hlp
    cases hlp
  | succ n9 ih =>
    intro x4 h y hlp hk
    obtain ⟨k9, z, hk9, hf, hy⟩ := lp_e hlp
    cases hk9
    replace hf : lb_X12_sheet_60 x1 x3 x4 h = some z := hf
    unfold lb_X12_sheet_60 at hf
    refine go_iload hC dX12_sheet_60 3 rfl ?_
    refine go_iload_n hC dX12_sheet_62 rfl 2 rfl ?_
    refine go_icmp_ge hC dX12_sheet_63 (tgt := 85) (by decide) (fun c_16 => ?_) (fun c_16 => ?_)
    · replace hf := if_t c_16 hf
      obtain rfl := so_1 hf
      obtain rfl := lp_x hy
      refine go_sub [0] rfl ?_
      exact hk
    · replace hf := if_f c_16 hf
      refine go_aload_n hC dX12_sheet_66 rfl 0 rfl ?_
      refine go_getr hC (j := 42) (idx := 87) (nm := "sheet") (ds := "[I") (b_43 _) rfl rfl hn12 (Nat.le_of_ble_eq_true rfl) rfl rfl (List.mem_cons_of_mem _ (List.mem_append_left _ (List.mem_of_getElem? (i := 2) rfl))) (Or.inl rfl) dX12_sheet_67 ?_
      refine go_bipush hC dX12_sheet_70 k8_100 ?_
      refine go_iload_n hC dX12_sheet_72 rfl 1 rfl ?_
      refine go_imul hC dX12_sheet_73 ?_
      refine go_iload hC dX12_sheet_74 3 rfl ?_
      refine go_iadd hC dX12_sheet_76 ?_
      refine go_iconst hC dX12_sheet_77 k1_0 ?_
      obtain ⟨g_13, hf⟩ := ga_e hf
      obtain ⟨h_14, eh_14, hf⟩ := lt_e hf
      refine go_iast hC (b_69 _) g_13 dX12_sheet_78 ?_
      refine go_toph eh_14 ?_
      obtain ⟨x4_15, ex4_15, hf⟩ := lt_e hf
      refine go_iinc hC dX12_sheet_79 3 rfl k1_1 ex4_15 (Nat.le_of_ble_eq_true rfl) rfl ?_
      refine go_goto hC dX12_sheet_82 (tgt := 60) (by decide) ?_
      obtain rfl := so_1 hf
      refine go_sub [1, 2, 3, 0] rfl ?_
      exact ih x4_15 h_14 _ (lp_c hy) hk
theorem e_X12_sheet : yX12_sheet.cls = RX12 ∧ yX12_sheet.cls ≠ "java/lang/invoke/MethodHandle" ∧ yX12_sheet.cls ≠ "java/lang/invoke/VarHandle" ∧ (parseMethodDescriptor yX12_sheet.desc).map (fun d => d.parameters.length) = some 3 := by decide +kernel
set_option maxRecDepth 100000 in
set_option maxHeartbeats 4000000 in
theorem c_X12_sheet (x1 : Int32) (x2 : Int32) (x3 : Int32) (h : PH) (h2 : PH) (r : Int32) (hf : f_X12_sheet x1 x2 x3 h = some (r, h2)) : Con yX12_sheet wsX12_sheet (rm_d 2) l0_B [.ref 43, .int x1, .int x2, .int x3] h (some (.int r)) h2 := by
  have hn12 : ∀ w ∈ wsX120, w ∈ wsX12_sheet := (fun _ hw => (List.mem_cons_of_mem _ (List.mem_append_right _ hw)))
  refine con_i (ty := .int) (cc := cX12_sheet) (nL := 5) (by decide) rfl (Nat.le_of_ble_eq_true rfl) ?_
  intro C hC hret
  change Go l0_B C 0 0 0 [(0, .ref 43), (1, .int x1), (2, .int x2), (3, .int x3)] [] h
  unfold f_X12_sheet at hf
  refine go_iload_n hC dX12_sheet_0 rfl 1 rfl ?_
  obtain ⟨r_1, hc, hf⟩ := bd_e1 hf
  refine go_callS hC (c_X12_noSheet x1 h r_1 hc) gX12_sheet_X12_noSheet rfl ⟨rfl, rfl⟩ 1 e_X12_noSheet ⟨Nat.le_of_ble_eq_true rfl, Nat.le_of_ble_eq_true rfl⟩ rfl (st := []) (st1 := [.int r_1]) rfl rfl (Nat.le_of_ble_eq_true rfl) ⟨Nat.zero_le _, Nat.zero_le _⟩ dX12_sheet_1 ?_
  refine go_if_eq hC dX12_sheet_4 (tgt := 13) (by decide) (fun c_29 => ?_) (fun c_29 => ?_)
  · replace hf := if_t c_29 hf
    refine go_iload_n hC dX12_sheet_13 rfl 2 rfl ?_
    obtain ⟨r_2, hc, hf⟩ := bd_e1 hf
    refine go_callS hC (c_X12_isLane x2 h r_2 hc) gX12_sheet_X12_isLane rfl ⟨rfl, rfl⟩ 1 e_X12_isLane ⟨Nat.le_of_ble_eq_true rfl, Nat.le_of_ble_eq_true rfl⟩ rfl (st := []) (st1 := [.int r_2]) rfl rfl (Nat.le_of_ble_eq_true rfl) ⟨Nat.zero_le _, Nat.zero_le _⟩ dX12_sheet_14 ?_
    refine go_if_eq hC dX12_sheet_17 (tgt := 26) (by decide) (fun c_26 => ?_) (fun c_26 => ?_)
    · replace hf := if_t c_26 hf
      refine go_aload_n hC dX12_sheet_26 rfl 0 rfl ?_
      refine go_bipush hC dX12_sheet_27 k8_m2 ?_
      obtain ⟨r_3, h_4, hc, hf⟩ := bd_e2 hf
      refine go_callV hC (c_X12_refused (-2) h h_4 r_3 hc) gX12_sheet_X12_refused rfl ⟨rfl, rfl⟩ 1 e_X12_refused ⟨Nat.le_of_ble_eq_true rfl, Nat.le_of_ble_eq_true rfl⟩ (b_43 _) rfl rfl (st := []) (st1 := [.int r_3]) rfl rfl (Nat.le_of_ble_eq_true rfl) ⟨Nat.zero_le _, Nat.zero_le _⟩ dX12_sheet_29 ?_
      obtain ⟨rfl, rfl⟩ := so_2 hf
      exact hret _ _ rfl dX12_sheet_32
    · replace hf := if_f c_26 hf
      refine go_iload_n hC dX12_sheet_20 rfl 3 rfl ?_
      refine go_bipush hC dX12_sheet_21 k8_100 ?_
      refine go_icmp_le hC dX12_sheet_23 (tgt := 33) (by decide) (fun c_25 => ?_) (fun c_25 => ?_)
      · replace hf := if_t c_25 hf
        refine go_iload_n hC dX12_sheet_33 rfl 3 rfl ?_
        refine go_if_ge hC dX12_sheet_34 (tgt := 43) (by decide) (fun c_22 => ?_) (fun c_22 => ?_)
        · replace hf := if_t c_22 hf
          refine go_aload_n hC dX12_sheet_43 rfl 0 rfl ?_
          refine go_getr hC (j := 40) (idx := 81) (nm := "sheetSize") (ds := "[I") (b_43 _) rfl rfl hn12 (Nat.le_of_ble_eq_true rfl) rfl rfl (List.mem_cons_of_mem _ (List.mem_append_left _ (List.mem_of_getElem? (i := 0) rfl))) (Or.inl rfl) dX12_sheet_44 ?_
          refine go_iload_n hC dX12_sheet_47 rfl 1 rfl ?_
          refine go_iload_n hC dX12_sheet_48 rfl 3 rfl ?_
          obtain ⟨g_5, hf⟩ := ga_e hf
          obtain ⟨h_6, eh_6, hf⟩ := lt_e hf
          refine go_iast hC (b_67 _) g_5 dX12_sheet_49 ?_
          refine go_toph eh_6 ?_
          refine go_aload_n hC dX12_sheet_50 rfl 0 rfl ?_
          refine go_getr hC (j := 41) (idx := 84) (nm := "sheetLane") (ds := "[I") (b_43 _) rfl rfl hn12 (Nat.le_of_ble_eq_true rfl) rfl rfl (List.mem_cons_of_mem _ (List.mem_append_left _ (List.mem_of_getElem? (i := 1) rfl))) (Or.inl rfl) dX12_sheet_51 ?_
          refine go_iload_n hC dX12_sheet_54 rfl 1 rfl ?_
          refine go_iload_n hC dX12_sheet_55 rfl 2 rfl ?_
          obtain ⟨g_7, hf⟩ := ga_e hf
          obtain ⟨h_8, eh_8, hf⟩ := lt_e hf
          refine go_iast hC (b_68 _) g_7 dX12_sheet_56 ?_
          refine go_toph eh_8 ?_
          refine go_iconst hC dX12_sheet_57 k1_0 ?_
          refine go_istore hC dX12_sheet_58 (Nat.le_of_ble_eq_true rfl) rfl ?_
          obtain ⟨s_17, hl, hf⟩ := bd_e1 hf
          refine go_sub [1, 2, 4, 0] rfl ?_
          refine lw_X12_sheet_60 hC x1 x3 _ 0 h_8 s_17 hl ?_
          refine go_aload_n hC dX12_sheet_85 rfl 0 rfl ?_
          refine go_iconst hC dX12_sheet_86 k1_1 ?_
          obtain ⟨r_18, h_19, hc, hf⟩ := bd_e2 hf
          refine go_callV hC (c_X12_refused 1 s_17.2 h_19 r_18 hc) gX12_sheet_X12_refused rfl ⟨rfl, rfl⟩ 1 e_X12_refused ⟨Nat.le_of_ble_eq_true rfl, Nat.le_of_ble_eq_true rfl⟩ (b_43 _) rfl rfl (st := []) (st1 := [.int r_18]) rfl rfl (Nat.le_of_ble_eq_true rfl) ⟨Nat.zero_le _, Nat.zero_le _⟩ dX12_sheet_87 ?_
          obtain ⟨rfl, rfl⟩ := so_2 hf
          exact hret _ _ rfl dX12_sheet_90
        · replace hf := if_f c_22 hf
          refine go_aload_n hC dX12_sheet_37 rfl 0 rfl ?_
          refine go_iconst hC dX12_sheet_38 k1_4 ?_
          obtain ⟨r_20, h_21, hc, hf⟩ := bd_e2 hf
          refine go_callV hC (c_X12_failed 4 h h_21 r_20 hc) gX12_sheet_X12_failed rfl ⟨rfl, rfl⟩ 1 e_X12_failed ⟨Nat.le_of_ble_eq_true rfl, Nat.le_of_ble_eq_true rfl⟩ (b_43 _) rfl rfl (st := []) (st1 := [.int r_20]) rfl rfl (Nat.le_of_ble_eq_true rfl) ⟨Nat.zero_le _, Nat.zero_le _⟩ dX12_sheet_39 ?_
          obtain ⟨rfl, rfl⟩ := so_2 hf
          exact hret _ _ rfl dX12_sheet_42
      · replace hf := if_f c_25 hf
        refine go_aload_n hC dX12_sheet_26 rfl 0 rfl ?_
        refine go_bipush hC dX12_sheet_27 k8_m2 ?_
        obtain ⟨r_23, h_24, hc, hf⟩ := bd_e2 hf
        refine go_callV hC (c_X12_refused (-2) h h_24 r_23 hc) gX12_sheet_X12_refused rfl ⟨rfl, rfl⟩ 1 e_X12_refused ⟨Nat.le_of_ble_eq_true rfl, Nat.le_of_ble_eq_true rfl⟩ (b_43 _) rfl rfl (st := []) (st1 := [.int r_23]) rfl rfl (Nat.le_of_ble_eq_true rfl) ⟨Nat.zero_le _, Nat.zero_le _⟩ dX12_sheet_29 ?_
        obtain ⟨rfl, rfl⟩ := so_2 hf
        exact hret _ _ rfl dX12_sheet_32
  · replace hf := if_f c_29 hf
    refine go_aload_n hC dX12_sheet_7 rfl 0 rfl ?_
    refine go_iconst hC dX12_sheet_8 k1_m1 ?_
    obtain ⟨r_27, h_28, hc, hf⟩ := bd_e2 hf
    refine go_callV hC (c_X12_refused (-1) h h_28 r_27 hc) gX12_sheet_X12_refused rfl ⟨rfl, rfl⟩ 1 e_X12_refused ⟨Nat.le_of_ble_eq_true rfl, Nat.le_of_ble_eq_true rfl⟩ (b_43 _) rfl rfl (st := []) (st1 := [.int r_27]) rfl rfl (Nat.le_of_ble_eq_true rfl) ⟨Nat.zero_le _, Nat.zero_le _⟩ dX12_sheet_9 ?_
    obtain ⟨rfl, rfl⟩ := so_2 hf
    exact hret _ _ rfl dX12_sheet_12
def f_X12_lose (x1 : Int32) (h : PH) : Option (Int32 × PH) :=
  bd_1 (f_X12_noSheet x1 h) fun r_1 =>
  if r_1 = 0 then (
  ga_i x1 4 (
  if 0 ≤ (h.1 67 x1.toNatClampNeg) then (
  ga_i x1 4 (
  lt_b (ph_i h 67 x1.toNatClampNeg (-1)) fun h_4 =>
  some (1, h_4)))
  else (
  ga_i x1 4 (
  lt_b (ph_i h 67 x1.toNatClampNeg (-1)) fun h_6 =>
  some (0, h_6)))))
  else (
  some ((-1), h))
theorem e_X12_lose : yX12_lose.cls = RX12 ∧ yX12_lose.cls ≠ "java/lang/invoke/MethodHandle" ∧ yX12_lose.cls ≠ "java/lang/invoke/VarHandle" ∧ (parseMethodDescriptor yX12_lose.desc).map (fun d => d.parameters.length) = some 1 := by decide +kernel
set_option maxRecDepth 100000 in
set_option maxHeartbeats 4000000 in
theorem c_X12_lose (x1 : Int32) (h : PH) (h2 : PH) (r : Int32) (hf : f_X12_lose x1 h = some (r, h2)) : Con yX12_lose wsX12_lose (rm_d 2) l0_B [.ref 43, .int x1] h (some (.int r)) h2 := by
  have hn12 : ∀ w ∈ wsX120, w ∈ wsX12_lose := (fun _ hw => (List.mem_cons_of_mem _ (List.mem_append_right _ hw)))
  refine con_i (ty := .int) (cc := cX12_lose) (nL := 3) (by decide) rfl (Nat.le_of_ble_eq_true rfl) ?_
  intro C hC hret
  change Go l0_B C 0 0 0 [(0, .ref 43), (1, .int x1)] [] h
  unfold f_X12_lose at hf
  refine go_iload_n hC dX12_lose_0 rfl 1 rfl ?_
  obtain ⟨r_1, hc, hf⟩ := bd_e1 hf
  refine go_callS hC (c_X12_noSheet x1 h r_1 hc) gX12_lose_X12_noSheet rfl ⟨rfl, rfl⟩ 1 e_X12_noSheet ⟨Nat.le_of_ble_eq_true rfl, Nat.le_of_ble_eq_true rfl⟩ rfl (st := []) (st1 := [.int r_1]) rfl rfl (Nat.le_of_ble_eq_true rfl) ⟨Nat.zero_le _, Nat.zero_le _⟩ dX12_lose_1 ?_
  refine go_if_eq hC dX12_lose_4 (tgt := 9) (by decide) (fun c_8 => ?_) (fun c_8 => ?_)
  · replace hf := if_t c_8 hf
    refine go_aload_n hC dX12_lose_9 rfl 0 rfl ?_
    refine go_getr hC (j := 40) (idx := 81) (nm := "sheetSize") (ds := "[I") (b_43 _) rfl rfl hn12 (Nat.le_of_ble_eq_true rfl) rfl rfl (List.mem_cons_of_mem _ (List.mem_append_left _ (List.mem_of_getElem? (i := 0) rfl))) (Or.inl rfl) dX12_lose_10 ?_
    refine go_iload_n hC dX12_lose_13 rfl 1 rfl ?_
    obtain ⟨g_2, hf⟩ := ga_e hf
    refine go_iald hC (b_67 _) g_2 dX12_lose_14 ?_
    refine go_if_ge hC dX12_lose_15 (tgt := 22) (by decide) (fun c_7 => ?_) (fun c_7 => ?_)
    · replace hf := if_t c_7 hf
      refine go_iconst hC dX12_lose_22 k1_1 ?_
      refine go_istore_n hC dX12_lose_23 rfl (Nat.le_of_ble_eq_true rfl) rfl ?_
      refine go_aload_n hC dX12_lose_24 rfl 1 rfl ?_
      refine go_getr hC (j := 40) (idx := 81) (nm := "sheetSize") (ds := "[I") (b_43 _) rfl rfl hn12 (Nat.le_of_ble_eq_true rfl) rfl rfl (List.mem_cons_of_mem _ (List.mem_append_left _ (List.mem_of_getElem? (i := 0) rfl))) (Or.inl rfl) dX12_lose_25 ?_
      refine go_iload_n hC dX12_lose_28 rfl 2 rfl ?_
      refine go_iconst hC dX12_lose_29 k1_m1 ?_
      obtain ⟨g_3, hf⟩ := ga_e hf
      obtain ⟨h_4, eh_4, hf⟩ := lt_e hf
      refine go_iast hC (b_67 _) g_3 dX12_lose_30 ?_
      refine go_toph eh_4 ?_
      refine go_iload_n hC dX12_lose_31 rfl 0 rfl ?_
      obtain ⟨rfl, rfl⟩ := so_2 hf
      exact hret _ _ rfl dX12_lose_32
    · replace hf := if_f c_7 hf
      refine go_iconst hC dX12_lose_18 k1_0 ?_
      refine go_goto hC dX12_lose_19 (tgt := 23) (by decide) ?_
      refine go_istore_n hC dX12_lose_23 rfl (Nat.le_of_ble_eq_true rfl) rfl ?_
      refine go_aload_n hC dX12_lose_24 rfl 1 rfl ?_
      refine go_getr hC (j := 40) (idx := 81) (nm := "sheetSize") (ds := "[I") (b_43 _) rfl rfl hn12 (Nat.le_of_ble_eq_true rfl) rfl rfl (List.mem_cons_of_mem _ (List.mem_append_left _ (List.mem_of_getElem? (i := 0) rfl))) (Or.inl rfl) dX12_lose_25 ?_
      refine go_iload_n hC dX12_lose_28 rfl 2 rfl ?_
      refine go_iconst hC dX12_lose_29 k1_m1 ?_
      obtain ⟨g_5, hf⟩ := ga_e hf
      obtain ⟨h_6, eh_6, hf⟩ := lt_e hf
      refine go_iast hC (b_67 _) g_5 dX12_lose_30 ?_
      refine go_toph eh_6 ?_
      refine go_iload_n hC dX12_lose_31 rfl 0 rfl ?_
      obtain ⟨rfl, rfl⟩ := so_2 hf
      exact hret _ _ rfl dX12_lose_32
  · replace hf := if_f c_8 hf
    refine go_iconst hC dX12_lose_7 k1_m1 ?_
    obtain ⟨rfl, rfl⟩ := so_2 hf
    exact hret _ _ rfl dX12_lose_8
def f_X12_noCell (x1 : Int32) (x2 : Int32) (h : PH) : Option (Int32) :=
  ga_i x1 4 (
  if 0 ≤ (h.1 67 x1.toNatClampNeg) then (
  ga_i x1 4 (
  bd_1 (f_X12_in x2.toInt64 0 (((h.1 67 x1.toNatClampNeg).toInt64) - 1) h) fun r_3 =>
  if r_3 = 0 then (
  some 3)
  else (
  some 0)))
  else (
  some 1))
theorem e_X12_noCell : yX12_noCell.cls = RX12 ∧ yX12_noCell.cls ≠ "java/lang/invoke/MethodHandle" ∧ yX12_noCell.cls ≠ "java/lang/invoke/VarHandle" ∧ (parseMethodDescriptor yX12_noCell.desc).map (fun d => d.parameters.length) = some 2 := by decide +kernel
set_option maxRecDepth 100000 in
set_option maxHeartbeats 4000000 in
theorem c_X12_noCell (x1 : Int32) (x2 : Int32) (h : PH) (r : Int32) (hf : f_X12_noCell x1 x2 h = some r) : Con yX12_noCell wsX12_noCell (rm_d 1) l0_B [.ref 43, .int x1, .int x2] h (some (.int r)) h := by
  have hn12 : ∀ w ∈ wsX120, w ∈ wsX12_noCell := (fun _ hw => (List.mem_cons_of_mem _ (List.mem_append_right _ hw)))
  refine con_i (ty := .int) (cc := cX12_noCell) (nL := 3) (by decide) rfl (Nat.le_of_ble_eq_true rfl) ?_
  intro C hC hret
  change Go l0_B C 0 0 0 [(0, .ref 43), (1, .int x1), (2, .int x2)] [] h
  unfold f_X12_noCell at hf
  refine go_aload_n hC dX12_noCell_0 rfl 0 rfl ?_
  refine go_getr hC (j := 40) (idx := 81) (nm := "sheetSize") (ds := "[I") (b_43 _) rfl rfl hn12 (Nat.le_of_ble_eq_true rfl) rfl rfl (List.mem_cons_of_mem _ (List.mem_append_left _ (List.mem_of_getElem? (i := 0) rfl))) (Or.inl rfl) dX12_noCell_1 ?_
  refine go_iload_n hC dX12_noCell_4 rfl 1 rfl ?_
  obtain ⟨g_1, hf⟩ := ga_e hf
  refine go_iald hC (b_67 _) g_1 dX12_noCell_5 ?_
  refine go_if_ge hC dX12_noCell_6 (tgt := 13) (by decide) (fun c_5 => ?_) (fun c_5 => ?_)
  · replace hf := if_t c_5 hf
    refine go_iload_n hC dX12_noCell_13 rfl 2 rfl ?_
    refine go_i2l hC dX12_noCell_14 ?_
    refine go_lconst hC dX12_noCell_15 (v := 0) rfl ?_
    refine go_aload_n hC dX12_noCell_16 rfl 0 rfl ?_
    refine go_getr hC (j := 40) (idx := 81) (nm := "sheetSize") (ds := "[I") (b_43 _) rfl rfl hn12 (Nat.le_of_ble_eq_true rfl) rfl rfl (List.mem_cons_of_mem _ (List.mem_append_left _ (List.mem_of_getElem? (i := 0) rfl))) (Or.inl rfl) dX12_noCell_17 ?_
    refine go_iload_n hC dX12_noCell_20 rfl 1 rfl ?_
    obtain ⟨g_2, hf⟩ := ga_e hf
    refine go_iald hC (b_67 _) g_2 dX12_noCell_21 ?_
    refine go_i2l hC dX12_noCell_22 ?_
    refine go_lconst hC dX12_noCell_23 (v := 1) rfl ?_
    refine go_lsub hC dX12_noCell_24 ?_
    obtain ⟨r_3, hc, hf⟩ := bd_e1 hf
    refine go_callS hC (c_X12_in x2.toInt64 0 (((h.1 67 x1.toNatClampNeg).toInt64) - 1) h r_3 hc) gX12_noCell_X12_in rfl ⟨rfl, rfl⟩ 3 e_X12_in ⟨Nat.le_of_ble_eq_true rfl, Nat.le_of_ble_eq_true rfl⟩ rfl (st := []) (st1 := [.int r_3]) rfl rfl (Nat.le_of_ble_eq_true rfl) ⟨Nat.zero_le _, Nat.zero_le _⟩ dX12_noCell_25 ?_
    refine go_if_eq hC dX12_noCell_28 (tgt := 35) (by decide) (fun c_4 => ?_) (fun c_4 => ?_)
    · replace hf := if_t c_4 hf
      refine go_iconst hC dX12_noCell_35 k1_3 ?_
      obtain rfl := so_1 hf
      exact hret _ _ rfl dX12_noCell_36
    · replace hf := if_f c_4 hf
      refine go_iconst hC dX12_noCell_31 k1_0 ?_
      refine go_goto hC dX12_noCell_32 (tgt := 36) (by decide) ?_
      obtain rfl := so_1 hf
      exact hret _ _ rfl dX12_noCell_36
  · replace hf := if_f c_5 hf
    refine go_iconst hC dX12_noCell_9 k1_1 ?_
    refine go_goto hC dX12_noCell_10 (tgt := 36) (by decide) ?_
    obtain rfl := so_1 hf
    exact hret _ _ rfl dX12_noCell_36
def f_X12_put (x1 : Int32) (x2 : Int32) (x3 : Int32) (h : PH) : Option (Int32 × PH) :=
  bd_1 (f_X12_noSheet x1 h) fun r_1 =>
  if r_1 = 0 then (
  bd_1 (f_X12_noCell x1 x2 h) fun r_2 =>
  if r_2 ≤ 0 then (
  ga_i x1 4 (
  if (h.1 68 x1.toNatClampNeg) = 0 then (
  ga_i ((100 * x1) + x2) 400 (
  lt_b (ph_i h 69 ((100 * x1) + x2).toNatClampNeg x3.toInt8.toInt32) fun h_15 =>
  bd_2 (f_X12_refused 1 h_15) fun r_16 h_17 =>
  some (r_16, h_17)))
  else (
  ga_i x1 4 (
  if (h.1 68 x1.toNatClampNeg) = 1 then (
  ga_i ((100 * x1) + x2) 400 (
  lt_b (ph_i h 69 ((100 * x1) + x2).toNatClampNeg x3.toInt16.toInt32) fun h_10 =>
  bd_2 (f_X12_refused 1 h_10) fun r_11 h_12 =>
  some (r_11, h_12)))
  else (
  ga_i ((100 * x1) + x2) 400 (
  lt_b (ph_i h 69 ((100 * x1) + x2).toNatClampNeg x3) fun h_6 =>
  bd_2 (f_X12_refused 1 h_6) fun r_7 h_8 =>
  some (r_7, h_8)))))))
  else (
  bd_1 (f_X12_noCell x1 x2 h) fun r_19 =>
  bd_2 (f_X12_failed r_19 h) fun r_20 h_21 =>
  some (r_20, h_21)))
  else (
  bd_2 (f_X12_refused (-1) h) fun r_23 h_24 =>
  some (r_23, h_24))
theorem e_X12_put : yX12_put.cls = RX12 ∧ yX12_put.cls ≠ "java/lang/invoke/MethodHandle" ∧ yX12_put.cls ≠ "java/lang/invoke/VarHandle" ∧ (parseMethodDescriptor yX12_put.desc).map (fun d => d.parameters.length) = some 3 := by decide +kernel
set_option maxRecDepth 100000 in
set_option maxHeartbeats 4000000 in
theorem c_X12_put (x1 : Int32) (x2 : Int32) (x3 : Int32) (h : PH) (h2 : PH) (r : Int32) (hf : f_X12_put x1 x2 x3 h = some (r, h2)) : Con yX12_put wsX12_put (rm_d 2) l0_B [.ref 43, .int x1, .int x2, .int x3] h (some (.int r)) h2 := by
  have hn12 : ∀ w ∈ wsX120, w ∈ wsX12_put := (fun _ hw => (List.mem_cons_of_mem _ (List.mem_append_right _ hw)))
  refine con_i (ty := .int) (cc := cX12_put) (nL := 4) (by decide) rfl (Nat.le_of_ble_eq_true rfl) ?_
  intro C hC hret
  change Go l0_B C 0 0 0 [(0, .ref 43), (1, .int x1), (2, .int x2), (3, .int x3)] [] h
  unfold f_X12_put at hf
  refine go_iload_n hC dX12_put_0 rfl 1 rfl ?_
  obtain ⟨r_1, hc, hf⟩ := bd_e1 hf
  refine go_callS hC (c_X12_noSheet x1 h r_1 hc) gX12_put_X12_noSheet rfl ⟨rfl, rfl⟩ 1 e_X12_noSheet ⟨Nat.le_of_ble_eq_true rfl, Nat.le_of_ble_eq_true rfl⟩ rfl (st := []) (st1 := [.int r_1]) rfl rfl (Nat.le_of_ble_eq_true rfl) ⟨Nat.zero_le _, Nat.zero_le _⟩ dX12_put_1 ?_
  refine go_if_eq hC dX12_put_4 (tgt := 13) (by decide) (fun c_25 => ?_) (fun c_25 => ?_)
  · replace hf := if_t c_25 hf
    refine go_aload_n hC dX12_put_13 rfl 0 rfl ?_
    refine go_iload_n hC dX12_put_14 rfl 1 rfl ?_
    refine go_iload_n hC dX12_put_15 rfl 2 rfl ?_
    obtain ⟨r_2, hc, hf⟩ := bd_e1 hf
    refine go_callV hC (c_X12_noCell x1 x2 h r_2 hc) gX12_put_X12_noCell rfl ⟨rfl, rfl⟩ 2 e_X12_noCell ⟨Nat.le_of_ble_eq_true rfl, Nat.le_of_ble_eq_true rfl⟩ (b_43 _) rfl rfl (st := []) (st1 := [.int r_2]) rfl rfl (Nat.le_of_ble_eq_true rfl) ⟨Nat.zero_le _, Nat.zero_le _⟩ dX12_put_16 ?_
    refine go_if_le hC dX12_put_19 (tgt := 33) (by decide) (fun c_22 => ?_) (fun c_22 => ?_)
    · replace hf := if_t c_22 hf
      refine go_aload_n hC dX12_put_33 rfl 0 rfl ?_
      refine go_getr hC (j := 42) (idx := 87) (nm := "sheet") (ds := "[I") (b_43 _) rfl rfl hn12 (Nat.le_of_ble_eq_true rfl) rfl rfl (List.mem_cons_of_mem _ (List.mem_append_left _ (List.mem_of_getElem? (i := 0) rfl))) (Or.inl rfl) dX12_put_34 ?_
      refine go_bipush hC dX12_put_37 k8_100 ?_
      refine go_iload_n hC dX12_put_39 rfl 1 rfl ?_
      refine go_imul hC dX12_put_40 ?_
      refine go_iload_n hC dX12_put_41 rfl 2 rfl ?_
      refine go_iadd hC dX12_put_42 ?_
      refine go_aload_n hC dX12_put_43 rfl 0 rfl ?_
      refine go_getr hC (j := 41) (idx := 84) (nm := "sheetLane") (ds := "[I") (b_43 _) rfl rfl hn12 (Nat.le_of_ble_eq_true rfl) rfl rfl (List.mem_cons_of_mem _ (List.mem_append_left _ (List.mem_of_getElem? (i := 1) rfl))) (Or.inl rfl) dX12_put_44 ?_
      refine go_iload_n hC dX12_put_47 rfl 1 rfl ?_
      obtain ⟨g_3, hf⟩ := ga_e hf
      refine go_iald hC (b_68 _) g_3 dX12_put_48 ?_
      refine go_if_ne hC dX12_put_49 (tgt := 57) (by decide) (fun c_18 => ?_) (fun c_18 => ?_)
      · replace hf := if_f c_18 hf
        refine go_aload_n hC dX12_put_57 rfl 0 rfl ?_
        refine go_getr hC (j := 41) (idx := 84) (nm := "sheetLane") (ds := "[I") (b_43 _) rfl rfl hn12 (Nat.le_of_ble_eq_true rfl) rfl rfl (List.mem_cons_of_mem _ (List.mem_append_left _ (List.mem_of_getElem? (i := 1) rfl))) (Or.inl rfl) dX12_put_58 ?_
        refine go_iload_n hC dX12_put_61 rfl 1 rfl ?_
        obtain ⟨g_4, hf⟩ := ga_e hf
        refine go_iald hC (b_68 _) g_4 dX12_put_62 ?_
        refine go_iconst hC dX12_put_63 k1_1 ?_
        refine go_icmp_ne hC dX12_put_64 (tgt := 72) (by decide) (fun c_13 => ?_) (fun c_13 => ?_)
        · replace hf := if_f c_13 hf
          refine go_iload_n hC dX12_put_72 rfl 3 rfl ?_
          obtain ⟨g_5, hf⟩ := ga_e hf
          obtain ⟨h_6, eh_6, hf⟩ := lt_e hf
          refine go_iast hC (b_69 _) g_5 dX12_put_73 ?_
          refine go_toph eh_6 ?_
          refine go_aload_n hC dX12_put_74 rfl 0 rfl ?_
          refine go_iconst hC dX12_put_75 k1_1 ?_
          obtain ⟨r_7, h_8, hc, hf⟩ := bd_e2 hf
          refine go_callV hC (c_X12_refused 1 h_6 h_8 r_7 hc) gX12_put_X12_refused rfl ⟨rfl, rfl⟩ 1 e_X12_refused ⟨Nat.le_of_ble_eq_true rfl, Nat.le_of_ble_eq_true rfl⟩ (b_43 _) rfl rfl (st := []) (st1 := [.int r_7]) rfl rfl (Nat.le_of_ble_eq_true rfl) ⟨Nat.zero_le _, Nat.zero_le _⟩ dX12_put_76 ?_
          obtain ⟨rfl, rfl⟩ := so_2 hf
          exact hret _ _ rfl dX12_put_79
        · replace hf := if_t c_13 hf
          refine go_iload_n hC dX12_put_67 rfl 3 rfl ?_
          refine go_i2s hC dX12_put_68 ?_
          refine go_goto hC dX12_put_69 (tgt := 73) (by decide) ?_
          obtain ⟨g_9, hf⟩ := ga_e hf
          obtain ⟨h_10, eh_10, hf⟩ := lt_e hf
          refine go_iast hC (b_69 _) g_9 dX12_put_73 ?_
          refine go_toph eh_10 ?_
          refine go_aload_n hC dX12_put_74 rfl 0 rfl ?_
          refine go_iconst hC dX12_put_75 k1_1 ?_
          obtain ⟨r_11, h_12, hc, hf⟩ := bd_e2 hf
          refine go_callV hC (c_X12_refused 1 h_10 h_12 r_11 hc) gX12_put_X12_refused rfl ⟨rfl, rfl⟩ 1 e_X12_refused ⟨Nat.le_of_ble_eq_true rfl, Nat.le_of_ble_eq_true rfl⟩ (b_43 _) rfl rfl (st := []) (st1 := [.int r_11]) rfl rfl (Nat.le_of_ble_eq_true rfl) ⟨Nat.zero_le _, Nat.zero_le _⟩ dX12_put_76 ?_
          obtain ⟨rfl, rfl⟩ := so_2 hf
          exact hret _ _ rfl dX12_put_79
      · replace hf := if_t c_18 hf
        refine go_iload_n hC dX12_put_52 rfl 3 rfl ?_
        refine go_i2b hC dX12_put_53 ?_
        refine go_goto hC dX12_put_54 (tgt := 73) (by decide) ?_
        obtain ⟨g_14, hf⟩ := ga_e hf
        obtain ⟨h_15, eh_15, hf⟩ := lt_e hf
        refine go_iast hC (b_69 _) g_14 dX12_put_73 ?_
        refine go_toph eh_15 ?_
        refine go_aload_n hC dX12_put_74 rfl 0 rfl ?_
        refine go_iconst hC dX12_put_75 k1_1 ?_
        obtain ⟨r_16, h_17, hc, hf⟩ := bd_e2 hf
        refine go_callV hC (c_X12_refused 1 h_15 h_17 r_16 hc) gX12_put_X12_refused rfl ⟨rfl, rfl⟩ 1 e_X12_refused ⟨Nat.le_of_ble_eq_true rfl, Nat.le_of_ble_eq_true rfl⟩ (b_43 _) rfl rfl (st := []) (st1 := [.int r_16]) rfl rfl (Nat.le_of_ble_eq_true rfl) ⟨Nat.zero_le _, Nat.zero_le _⟩ dX12_put_76 ?_
        obtain ⟨rfl, rfl⟩ := so_2 hf
        exact hret _ _ rfl dX12_put_79
    · replace hf := if_f c_22 hf
      refine go_aload_n hC dX12_put_22 rfl 0 rfl ?_
      refine go_aload_n hC dX12_put_23 rfl 0 rfl ?_
      refine go_iload_n hC dX12_put_24 rfl 1 rfl ?_
      refine go_iload_n hC dX12_put_25 rfl 2 rfl ?_
      obtain ⟨r_19, hc, hf⟩ := bd_e1 hf
      refine go_callV hC (c_X12_noCell x1 x2 h r_19 hc) gX12_put_X12_noCell rfl ⟨rfl, rfl⟩ 2 e_X12_noCell ⟨Nat.le_of_ble_eq_true rfl, Nat.le_of_ble_eq_true rfl⟩ (b_43 _) rfl rfl (st := [.ref 43]) (st1 := [.int r_19, .ref 43]) rfl rfl (Nat.le_of_ble_eq_true rfl) ⟨Nat.zero_le _, Nat.zero_le _⟩ dX12_put_26 ?_
      obtain ⟨r_20, h_21, hc, hf⟩ := bd_e2 hf
      refine go_callV hC (c_X12_failed r_19 h h_21 r_20 hc) gX12_put_X12_failed rfl ⟨rfl, rfl⟩ 1 e_X12_failed ⟨Nat.le_of_ble_eq_true rfl, Nat.le_of_ble_eq_true rfl⟩ (b_43 _) rfl rfl (st := []) (st1 := [.int r_20]) rfl rfl (Nat.le_of_ble_eq_true rfl) ⟨Nat.zero_le _, Nat.zero_le _⟩ dX12_put_29 ?_
      obtain ⟨rfl, rfl⟩ := so_2 hf
      exact hret _ _ rfl dX12_put_32
  · replace hf := if_f c_25 hf
    refine go_aload_n hC dX12_put_7 rfl 0 rfl ?_
    refine go_iconst hC dX12_put_8 k1_m1 ?_
    obtain ⟨r_23, h_24, hc, hf⟩ := bd_e2 hf
    refine go_callV hC (c_X12_refused (-1) h h_24 r_23 hc) gX12_put_X12_refused rfl ⟨rfl, rfl⟩ 1 e_X12_refused ⟨Nat.le_of_ble_eq_true rfl, Nat.le_of_ble_eq_true rfl⟩ (b_43 _) rfl rfl (st := []) (st1 := [.int r_23]) rfl rfl (Nat.le_of_ble_eq_true rfl) ⟨Nat.zero_le _, Nat.zero_le _⟩ dX12_put_9 ?_
    obtain ⟨rfl, rfl⟩ := so_2 hf
    exact hret _ _ rfl dX12_put_12
def f_X12_cell (x1 : Int32) (x2 : Int32) (x3 : Int32) (h : PH) : Option (Int64 × PH) :=
  lt_b (ph_i h 43 0 0) fun h_1 =>
  bd_1 (f_X12_noSheet x1 h_1) fun r_2 =>
  if r_2 = 0 then (
  bd_1 (f_X12_isLane x3 h_1) fun r_4 =>
  if r_4 = 0 then (
  bd_1 (f_X12_lost h_1) fun r_23 =>
  some (r_23, h_1))
  else (
  ga_i x1 4 (
  if (h_1.1 67 x1.toNatClampNeg) < 0 then (
  bd_1 (f_X12_noCell x1 x2 h_1) fun r_6 =>
  if r_6 ≤ 0 then (
  ga_i ((100 * x1) + x2) 400 (
  some ((h_1.1 69 ((100 * x1) + x2).toNatClampNeg).toInt64, h_1)))
  else (
  bd_1 (f_X12_noCell x1 x2 h_1) fun r_8 =>
  bd_2 (f_X12_failedLong r_8 h_1) fun r_9 h_10 =>
  some (r_9, h_10)))
  else (
  ga_i x1 4 (
  if (h_1.1 68 x1.toNatClampNeg) = x3 then (
  bd_1 (f_X12_noCell x1 x2 h_1) fun r_13 =>
  if r_13 ≤ 0 then (
  ga_i ((100 * x1) + x2) 400 (
  some ((h_1.1 69 ((100 * x1) + x2).toNatClampNeg).toInt64, h_1)))
  else (
  bd_1 (f_X12_noCell x1 x2 h_1) fun r_15 =>
  bd_2 (f_X12_failedLong r_15 h_1) fun r_16 h_17 =>
  some (r_16, h_17)))
  else (
  bd_2 (f_X12_failedLong 2 h_1) fun r_19 h_20 =>
  some (r_19, h_20)))))))
  else (
  bd_1 (f_X12_lost h_1) fun r_3 =>
  some (r_3, h_1))
theorem e_X12_cell : yX12_cell.cls = RX12 ∧ yX12_cell.cls ≠ "java/lang/invoke/MethodHandle" ∧ yX12_cell.cls ≠ "java/lang/invoke/VarHandle" ∧ (parseMethodDescriptor yX12_cell.desc).map (fun d => d.parameters.length) = some 3 := by decide +kernel
set_option maxRecDepth 100000 in
set_option maxHeartbeats 4000000 in
theorem c_X12_cell (x1 : Int32) (x2 : Int32) (x3 : Int32) (h : PH) (h2 : PH) (r : Int64) (hf : f_X12_cell x1 x2 x3 h = some (r, h2)) : Con yX12_cell wsX12_cell (rm_d 2) l0_B [.ref 43, .int x1, .int x2, .int x3] h (some (.long r)) h2 := by
  have hn12 : ∀ w ∈ wsX120, w ∈ wsX12_cell := (fun _ hw => (List.mem_cons_of_mem _ (List.mem_append_right _ hw)))
  refine con_l (cc := cX12_cell) (nL := 4) (by decide) rfl (Nat.le_of_ble_eq_true rfl) ?_
  intro C hC hret
  change Go l0_B C 0 0 0 [(0, .ref 43), (1, .int x1), (2, .int x2), (3, .int x3)] [] h
  unfold f_X12_cell at hf
  refine go_aload_n hC dX12_cell_0 rfl 0 rfl ?_
  refine go_iconst hC dX12_cell_1 k1_0 ?_
  obtain ⟨h_1, eh_1, hf⟩ := lt_e hf
  refine go_puti hC tyX12 (j := 0) (idx := 95) (nm := "fault") (ds := "I") (b_43 _) rfl rfl hn12 tyX12_ok nmX12 (Nat.le_of_ble_eq_true rfl) rfl rfl (List.mem_cons_of_mem _ (List.mem_append_left _ (List.mem_append_left _ (List.mem_of_getElem? (i := 0) rfl)))) (Or.inl rfl) rfl (tyX12_ok _ (Nat.le_of_ble_eq_true rfl)) dX12_cell_2 ?_
  refine go_toph eh_1 ?_
  refine go_iload_n hC dX12_cell_5 rfl 1 rfl ?_
  obtain ⟨r_2, hc, hf⟩ := bd_e1 hf
  refine go_callS hC (c_X12_noSheet x1 h_1 r_2 hc) gX12_cell_X12_noSheet rfl ⟨rfl, rfl⟩ 1 e_X12_noSheet ⟨Nat.le_of_ble_eq_true rfl, Nat.le_of_ble_eq_true rfl⟩ rfl (st := []) (st1 := [.int r_2]) rfl rfl (Nat.le_of_ble_eq_true rfl) ⟨Nat.zero_le _, Nat.zero_le _⟩ dX12_cell_6 ?_
  refine go_if_ne hC dX12_cell_9 (tgt := 19) (by decide) (fun c_25 => ?_) (fun c_25 => ?_)
  · replace hf := if_f c_25 hf
    obtain ⟨r_3, hc, hf⟩ := bd_e1 hf
    refine go_callS hC (c_X12_lost h_1 r_3 hc) gX12_cell_X12_lost rfl ⟨rfl, rfl⟩ 0 e_X12_lost ⟨Nat.le_of_ble_eq_true rfl, Nat.le_of_ble_eq_true rfl⟩ rfl (st := []) (st1 := [.long r_3]) rfl rfl (Nat.le_of_ble_eq_true rfl) ⟨Nat.zero_le _, Nat.zero_le _⟩ dX12_cell_19 ?_
    obtain ⟨rfl, rfl⟩ := so_2 hf
    exact hret _ _ dX12_cell_22
  · replace hf := if_t c_25 hf
    refine go_iload_n hC dX12_cell_12 rfl 3 rfl ?_
    obtain ⟨r_4, hc, hf⟩ := bd_e1 hf
    refine go_callS hC (c_X12_isLane x3 h_1 r_4 hc) gX12_cell_X12_isLane rfl ⟨rfl, rfl⟩ 1 e_X12_isLane ⟨Nat.le_of_ble_eq_true rfl, Nat.le_of_ble_eq_true rfl⟩ rfl (st := []) (st1 := [.int r_4]) rfl rfl (Nat.le_of_ble_eq_true rfl) ⟨Nat.zero_le _, Nat.zero_le _⟩ dX12_cell_13 ?_
    refine go_if_ne hC dX12_cell_16 (tgt := 23) (by decide) (fun c_24 => ?_) (fun c_24 => ?_)
    · replace hf := if_f c_24 hf
      refine go_aload_n hC dX12_cell_23 rfl 0 rfl ?_
      refine go_getr hC (j := 40) (idx := 81) (nm := "sheetSize") (ds := "[I") (b_43 _) rfl rfl hn12 (Nat.le_of_ble_eq_true rfl) rfl rfl (List.mem_cons_of_mem _ (List.mem_append_left _ (List.mem_append_left _ (List.mem_of_getElem? (i := 1) rfl)))) (Or.inl rfl) dX12_cell_24 ?_
      refine go_iload_n hC dX12_cell_27 rfl 1 rfl ?_
      obtain ⟨g_5, hf⟩ := ga_e hf
      refine go_iald hC (b_67 _) g_5 dX12_cell_28 ?_
      refine go_if_lt hC dX12_cell_29 (tgt := 48) (by decide) (fun c_22 => ?_) (fun c_22 => ?_)
      · replace hf := if_t c_22 hf
        refine go_aload_n hC dX12_cell_48 rfl 0 rfl ?_
        refine go_iload_n hC dX12_cell_49 rfl 1 rfl ?_
        refine go_iload_n hC dX12_cell_50 rfl 2 rfl ?_
        obtain ⟨r_6, hc, hf⟩ := bd_e1 hf
        refine go_callV hC (c_X12_noCell x1 x2 h_1 r_6 hc) gX12_cell_X12_noCell rfl ⟨rfl, rfl⟩ 2 e_X12_noCell ⟨Nat.le_of_ble_eq_true rfl, Nat.le_of_ble_eq_true rfl⟩ (b_43 _) rfl rfl (st := []) (st1 := [.int r_6]) rfl rfl (Nat.le_of_ble_eq_true rfl) ⟨Nat.zero_le _, Nat.zero_le _⟩ dX12_cell_51 ?_
        refine go_if_le hC dX12_cell_54 (tgt := 70) (by decide) (fun c_11 => ?_) (fun c_11 => ?_)
        · replace hf := if_t c_11 hf
          refine go_aload_n hC dX12_cell_70 rfl 0 rfl ?_
          refine go_getr hC (j := 42) (idx := 87) (nm := "sheet") (ds := "[I") (b_43 _) rfl rfl hn12 (Nat.le_of_ble_eq_true rfl) rfl rfl (List.mem_cons_of_mem _ (List.mem_append_left _ (List.mem_append_left _ (List.mem_of_getElem? (i := 3) rfl)))) (Or.inl rfl) dX12_cell_71 ?_
          refine go_bipush hC dX12_cell_74 k8_100 ?_
          refine go_iload_n hC dX12_cell_76 rfl 1 rfl ?_
          refine go_imul hC dX12_cell_77 ?_
          refine go_iload_n hC dX12_cell_78 rfl 2 rfl ?_
          refine go_iadd hC dX12_cell_79 ?_
          obtain ⟨g_7, hf⟩ := ga_e hf
          refine go_iald hC (b_69 _) g_7 dX12_cell_80 ?_
          refine go_i2l hC dX12_cell_81 ?_
          obtain ⟨rfl, rfl⟩ := so_2 hf
          exact hret _ _ dX12_cell_82
        · replace hf := if_f c_11 hf
          refine go_aload_n hC dX12_cell_57 rfl 0 rfl ?_
          refine go_aload_n hC dX12_cell_58 rfl 0 rfl ?_
          refine go_iload_n hC dX12_cell_59 rfl 1 rfl ?_
          refine go_iload_n hC dX12_cell_60 rfl 2 rfl ?_
          obtain ⟨r_8, hc, hf⟩ := bd_e1 hf
          refine go_callV hC (c_X12_noCell x1 x2 h_1 r_8 hc) gX12_cell_X12_noCell rfl ⟨rfl, rfl⟩ 2 e_X12_noCell ⟨Nat.le_of_ble_eq_true rfl, Nat.le_of_ble_eq_true rfl⟩ (b_43 _) rfl rfl (st := [.ref 43]) (st1 := [.int r_8, .ref 43]) rfl rfl (Nat.le_of_ble_eq_true rfl) ⟨Nat.zero_le _, Nat.zero_le _⟩ dX12_cell_61 ?_
          obtain ⟨r_9, h_10, hc, hf⟩ := bd_e2 hf
          refine go_callV hC (c_X12_failedLong r_8 h_1 h_10 r_9 hc) gX12_cell_X12_failedLong rfl ⟨rfl, rfl⟩ 1 e_X12_failedLong ⟨Nat.le_of_ble_eq_true rfl, Nat.le_of_ble_eq_true rfl⟩ (b_43 _) rfl rfl (st := []) (st1 := [.long r_9]) rfl rfl (Nat.le_of_ble_eq_true rfl) ⟨Nat.zero_le _, Nat.zero_le _⟩ dX12_cell_64 ?_
          refine go_goto hC dX12_cell_67 (tgt := 82) (by decide) ?_
          obtain ⟨rfl, rfl⟩ := so_2 hf
          exact hret _ _ dX12_cell_82
      · replace hf := if_f c_22 hf
        refine go_aload_n hC dX12_cell_32 rfl 0 rfl ?_
        refine go_getr hC (j := 41) (idx := 84) (nm := "sheetLane") (ds := "[I") (b_43 _) rfl rfl hn12 (Nat.le_of_ble_eq_true rfl) rfl rfl (List.mem_cons_of_mem _ (List.mem_append_left _ (List.mem_append_left _ (List.mem_of_getElem? (i := 2) rfl)))) (Or.inl rfl) dX12_cell_33 ?_
        refine go_iload_n hC dX12_cell_36 rfl 1 rfl ?_
        obtain ⟨g_12, hf⟩ := ga_e hf
        refine go_iald hC (b_68 _) g_12 dX12_cell_37 ?_
        refine go_iload_n hC dX12_cell_38 rfl 3 rfl ?_
        refine go_icmp_eq hC dX12_cell_39 (tgt := 48) (by decide) (fun c_21 => ?_) (fun c_21 => ?_)
        · replace hf := if_t c_21 hf
          refine go_aload_n hC dX12_cell_48 rfl 0 rfl ?_
          refine go_iload_n hC dX12_cell_49 rfl 1 rfl ?_
          refine go_iload_n hC dX12_cell_50 rfl 2 rfl ?_
          obtain ⟨r_13, hc, hf⟩ := bd_e1 hf
          refine go_callV hC (c_X12_noCell x1 x2 h_1 r_13 hc) gX12_cell_X12_noCell rfl ⟨rfl, rfl⟩ 2 e_X12_noCell ⟨Nat.le_of_ble_eq_true rfl, Nat.le_of_ble_eq_true rfl⟩ (b_43 _) rfl rfl (st := []) (st1 := [.int r_13]) rfl rfl (Nat.le_of_ble_eq_true rfl) ⟨Nat.zero_le _, Nat.zero_le _⟩ dX12_cell_51 ?_
          refine go_if_le hC dX12_cell_54 (tgt := 70) (by decide) (fun c_18 => ?_) (fun c_18 => ?_)
          · replace hf := if_t c_18 hf
            refine go_aload_n hC dX12_cell_70 rfl 0 rfl ?_
            refine go_getr hC (j := 42) (idx := 87) (nm := "sheet") (ds := "[I") (b_43 _) rfl rfl hn12 (Nat.le_of_ble_eq_true rfl) rfl rfl (List.mem_cons_of_mem _ (List.mem_append_left _ (List.mem_append_left _ (List.mem_of_getElem? (i := 3) rfl)))) (Or.inl rfl) dX12_cell_71 ?_
            refine go_bipush hC dX12_cell_74 k8_100 ?_
            refine go_iload_n hC dX12_cell_76 rfl 1 rfl ?_
            refine go_imul hC dX12_cell_77 ?_
            refine go_iload_n hC dX12_cell_78 rfl 2 rfl ?_
            refine go_iadd hC dX12_cell_79 ?_
            obtain ⟨g_14, hf⟩ := ga_e hf
            refine go_iald hC (b_69 _) g_14 dX12_cell_80 ?_
            refine go_i2l hC dX12_cell_81 ?_
            obtain ⟨rfl, rfl⟩ := so_2 hf
            exact hret _ _ dX12_cell_82
          · replace hf := if_f c_18 hf
            refine go_aload_n hC dX12_cell_57 rfl 0 rfl ?_
            refine go_aload_n hC dX12_cell_58 rfl 0 rfl ?_
            refine go_iload_n hC dX12_cell_59 rfl 1 rfl ?_
            refine go_iload_n hC dX12_cell_60 rfl 2 rfl ?_
            obtain ⟨r_15, hc, hf⟩ := bd_e1 hf
            refine go_callV hC (c_X12_noCell x1 x2 h_1 r_15 hc) gX12_cell_X12_noCell rfl ⟨rfl, rfl⟩ 2 e_X12_noCell ⟨Nat.le_of_ble_eq_true rfl, Nat.le_of_ble_eq_true rfl⟩ (b_43 _) rfl rfl (st := [.ref 43]) (st1 := [.int r_15, .ref 43]) rfl rfl (Nat.le_of_ble_eq_true rfl) ⟨Nat.zero_le _, Nat.zero_le _⟩ dX12_cell_61 ?_
            obtain ⟨r_16, h_17, hc, hf⟩ := bd_e2 hf
            refine go_callV hC (c_X12_failedLong r_15 h_1 h_17 r_16 hc) gX12_cell_X12_failedLong rfl ⟨rfl, rfl⟩ 1 e_X12_failedLong ⟨Nat.le_of_ble_eq_true rfl, Nat.le_of_ble_eq_true rfl⟩ (b_43 _) rfl rfl (st := []) (st1 := [.long r_16]) rfl rfl (Nat.le_of_ble_eq_true rfl) ⟨Nat.zero_le _, Nat.zero_le _⟩ dX12_cell_64 ?_
            refine go_goto hC dX12_cell_67 (tgt := 82) (by decide) ?_
            obtain ⟨rfl, rfl⟩ := so_2 hf
            exact hret _ _ dX12_cell_82
        · replace hf := if_f c_21 hf
          refine go_aload_n hC dX12_cell_42 rfl 0 rfl ?_
          refine go_iconst hC dX12_cell_43 k1_2 ?_
          obtain ⟨r_19, h_20, hc, hf⟩ := bd_e2 hf
          refine go_callV hC (c_X12_failedLong 2 h_1 h_20 r_19 hc) gX12_cell_X12_failedLong rfl ⟨rfl, rfl⟩ 1 e_X12_failedLong ⟨Nat.le_of_ble_eq_true rfl, Nat.le_of_ble_eq_true rfl⟩ (b_43 _) rfl rfl (st := []) (st1 := [.long r_19]) rfl rfl (Nat.le_of_ble_eq_true rfl) ⟨Nat.zero_le _, Nat.zero_le _⟩ dX12_cell_44 ?_
          obtain ⟨rfl, rfl⟩ := so_2 hf
          exact hret _ _ dX12_cell_47
    · replace hf := if_t c_24 hf
      obtain ⟨r_23, hc, hf⟩ := bd_e1 hf
      refine go_callS hC (c_X12_lost h_1 r_23 hc) gX12_cell_X12_lost rfl ⟨rfl, rfl⟩ 0 e_X12_lost ⟨Nat.le_of_ble_eq_true rfl, Nat.le_of_ble_eq_true rfl⟩ rfl (st := []) (st1 := [.long r_23]) rfl rfl (Nat.le_of_ble_eq_true rfl) ⟨Nat.zero_le _, Nat.zero_le _⟩ dX12_cell_19 ?_
      obtain ⟨rfl, rfl⟩ := so_2 hf
      exact hret _ _ dX12_cell_22
def lb_X12_copy_107 (x1 : Int32) (x2 : Int32) (x3 : Int32) (x4 : Int32) (x5 : Int32) (x6 : Int32) (h : PH) : Option ((Int32 × PH) ⊕ (Int32 × PH)) :=
  if x5 ≤ x6 then (
  some (.inr (x6, h)))
  else (
  ga_i (((100 * x1) + x2) + x6) 400 (
  ga_i x6 100 (
  lt_b (ph_i h 70 x6.toNatClampNeg (h.1 69 (((100 * x1) + x2) + x6).toNatClampNeg)) fun h_24 =>
  lt_b (x6 + 1) fun x6_25 =>
  some (.inl (x6_25, h_24)))))
def lb_X12_copy_144 (x3 : Int32) (x4 : Int32) (x5 : Int32) (x6 : Int32) (h : PH) : Option ((Int32 × PH) ⊕ (Int32 × PH)) :=
  if x5 ≤ x6 then (
  some (.inr (x6, h)))
  else (
  ga_i x6 100 (
  ga_i (((100 * x3) + x4) + x6) 400 (
  lt_b (ph_i h 69 (((100 * x3) + x4) + x6).toNatClampNeg (h.1 70 x6.toNatClampNeg)) fun h_35 =>
  lt_b (x6 + 1) fun x6_36 =>
  some (.inl (x6_36, h_35)))))
def f_X12_copy (x1 : Int32) (x2 : Int32) (x3 : Int32) (x4 : Int32) (x5 : Int32) (h : PH) : Option (Int32 × PH) :=
  bd_1 (f_X12_noSheet x1 h) fun r_1 =>
  if r_1 = 0 then (
  bd_1 (f_X12_noSheet x3 h) fun r_4 =>
  if r_4 = 0 then (
  ga_i x1 4 (
  if (h.1 67 x1.toNatClampNeg) < 0 then (
  bd_2 (f_X12_failed 1 h) fun r_6 h_7 =>
  some (r_6, h_7))
  else (
  ga_i x3 4 (
  if 0 ≤ (h.1 67 x3.toNatClampNeg) then (
  ga_i x1 4 (
  ga_i x3 4 (
  if (h.1 68 x1.toNatClampNeg) = (h.1 68 x3.toNatClampNeg) then (
  ga_i x1 4 (
  bd_1 (f_X12_isBeyond x2 x5.toInt64 (h.1 67 x1.toNatClampNeg) h) fun r_12 =>
  if r_12 = 0 then (
  ga_i x3 4 (
  bd_1 (f_X12_isBeyond x4 x5.toInt64 (h.1 67 x3.toNatClampNeg) h) fun r_16 =>
  if r_16 = 0 then (
  bd_1 (lp_f (fun s => lb_X12_copy_107 x1 x2 x3 x4 x5 s.1 s.2) fu_l (0, h)) fun s_27 =>
  bd_1 (lp_f (fun s => lb_X12_copy_144 x3 x4 x5 s.1 s.2) fu_l (0, s_27.2)) fun s_38 =>
  bd_2 (f_X12_refused x5 s_38.2) fun r_39 h_40 =>
  some (r_39, h_40))
  else (
  bd_2 (f_X12_failed 3 h) fun r_41 h_42 =>
  some (r_41, h_42))))
  else (
  bd_2 (f_X12_failed 3 h) fun r_13 h_14 =>
  some (r_13, h_14))))
  else (
  bd_2 (f_X12_failed 2 h) fun r_45 h_46 =>
  some (r_45, h_46)))))
  else (
  bd_2 (f_X12_failed 1 h) fun r_48 h_49 =>
  some (r_48, h_49))))))
  else (
  bd_2 (f_X12_refused (-1) h) fun r_52 h_53 =>
  some (r_52, h_53)))
  else (
  bd_2 (f_X12_refused (-1) h) fun r_2 h_3 =>
  some (r_2, h_3))
set_option maxRecDepth 100000 in
set_option maxHeartbeats 4000000 in
theorem lw_X12_copy_107 {C : GC} (hC : Cx C cX12_copy 7 wsX12_copy RX12 (some .int) (rm_d 2)) (x1 : Int32) (x2 : Int32) (x3 : Int32) (x4 : Int32) (x5 : Int32) : ∀ (n9 : Nat) (x6 : Int32) (h : PH) (y : Int32 × PH), lp_f (fun s => lb_X12_copy_107 x1 x2 x3 x4 x5 s.1 s.2) n9 (x6, h) = some y → ∀ (hk : Go l0_B C 0 0 141 [(0, .ref 43), (3, .int x3), (4, .int x4), (5, .int x5)] [] y.2), Go l0_B C 0 0 107 [(0, .ref 43), (1, .int x1), (2, .int x2), (3, .int x3), (4, .int x4), (5, .int x5), (6, .int x6)] [] h := by
  have hn12 : ∀ w ∈ wsX120, w ∈ wsX12_copy := (fun _ hw => (List.mem_cons_of_mem _ (List.mem_append_right _ hw)))
  intro n9
  induction n9 with
  | zero =>
    intro x6 h y hlp
    cases hlp
  | succ n9 ih =>
    intro x6 h y hlp hk
    obtain ⟨k9, z, hk9, hf, hy⟩ := lp_e hlp
    cases hk9
    replace hf : lb_X12_copy_107 x1 x2 x3 x4 x5 x6 h = some z := hf
    unfold lb_X12_copy_107 at hf
    refine go_iload hC dX12_copy_107 6 rfl ?_
    refine go_iload hC dX12_copy_109 5 rfl ?_
    refine go_icmp_ge hC dX12_copy_111 (tgt := 141) (by decide) (fun c_26 => ?_) (fun c_26 => ?_)
    · replace hf := if_t c_26 hf
      obtain rfl := so_1 hf
      obtain rfl := lp_x hy
      refine go_sub [0, 3, 4, 5] rfl ?_
      exact hk
    · replace hf := if_f c_26 hf
      refine go_aload_n hC dX12_copy_114 rfl 0 rfl ?_
      refine go_getr hC (j := 43) (idx := 90) (nm := "hands") (ds := "[I") (b_43 _) rfl rfl hn12 (Nat.le_of_ble_eq_true rfl) rfl rfl (List.mem_cons_of_mem _ (List.mem_append_left _ (List.mem_of_getElem? (i := 2) rfl))) (Or.inl rfl) dX12_copy_115 ?_
      refine go_iload hC dX12_copy_118 6 rfl ?_
      refine go_aload_n hC dX12_copy_120 rfl 0 rfl ?_
      refine go_getr hC (j := 42) (idx := 87) (nm := "sheet") (ds := "[I") (b_43 _) rfl rfl hn12 (Nat.le_of_ble_eq_true rfl) rfl rfl (List.mem_cons_of_mem _ (List.mem_append_left _ (List.mem_of_getElem? (i := 3) rfl))) (Or.inl rfl) dX12_copy_121 ?_
      refine go_bipush hC dX12_copy_124 k8_100 ?_
      refine go_iload_n hC dX12_copy_126 rfl 1 rfl ?_
      refine go_imul hC dX12_copy_127 ?_
      refine go_iload_n hC dX12_copy_128 rfl 2 rfl ?_
      refine go_iadd hC dX12_copy_129 ?_
      refine go_iload hC dX12_copy_130 6 rfl ?_
      refine go_iadd hC dX12_copy_132 ?_
      obtain ⟨g_22, hf⟩ := ga_e hf
      refine go_iald hC (b_69 _) g_22 dX12_copy_133 ?_
      obtain ⟨g_23, hf⟩ := ga_e hf
      obtain ⟨h_24, eh_24, hf⟩ := lt_e hf
      refine go_iast hC (b_70 _) g_23 dX12_copy_134 ?_
      refine go_toph eh_24 ?_
      obtain ⟨x6_25, ex6_25, hf⟩ := lt_e hf
      refine go_iinc hC dX12_copy_135 6 rfl k1_1 ex6_25 (Nat.le_of_ble_eq_true rfl) rfl ?_
      refine go_goto hC dX12_copy_138 (tgt := 107) (by decide) ?_
      obtain rfl := so_1 hf
      refine go_sub [1, 2, 3, 4, 5, 6, 0] rfl ?_
      exact ih x6_25 h_24 _ (lp_c hy) hk
set_option maxRecDepth 100000 in
set_option maxHeartbeats 4000000 in
theorem lw_X12_copy_144 {C : GC} (hC : Cx C cX12_copy 7 wsX12_copy RX12 (some .int) (rm_d 2)) (x3 : Int32) (x4 : Int32) (x5 : Int32) : ∀ (n9 : Nat) (x6 : Int32) (h : PH) (y : Int32 × PH), lp_f (fun s => lb_X12_copy_144 x3 x4 x5 s.1 s.2) n9 (x6, h) = some y → ∀ (hk : Go l0_B C 0 0 179 [(0, .ref 43), (5, .int x5)] [] y.2), Go l0_B C 0 0 144 [(0, .ref 43), (3, .int x3), (4, .int x4), (5, .int x5), (6, .int x6)] [] h := by
  have hn12 : ∀ w ∈ wsX120, w ∈ wsX12_copy := (fun _ hw => (List.mem_cons_of_mem _ (List.mem_append_right _ hw)))
  intro n9
  induction n9 with
  | zero =>
    intro x6 h y hlp
    cases hlp
  | succ n9 ih =>
    intro x6 h y hlp hk
    obtain ⟨k9, z, hk9, hf, hy⟩ := lp_e hlp
    cases hk9
    replace hf : lb_X12_copy_144 x3 x4 x5 x6 h = some z := hf
    unfold lb_X12_copy_144 at hf
    refine go_iload hC dX12_copy_144 4 rfl ?_
    refine go_iload hC dX12_copy_146 3 rfl ?_
    refine go_icmp_ge hC dX12_copy_148 (tgt := 179) (by decide) (fun c_37 => ?_) (fun c_37 => ?_)
    · replace hf := if_t c_37 hf
      obtain rfl := so_1 hf
      obtain rfl := lp_x hy
      refine go_sub [0, 3] rfl ?_
      exact hk
    · replace hf := if_f c_37 hf
      refine go_aload_n hC dX12_copy_151 rfl 0 rfl ?_
      refine go_getr hC (j := 42) (idx := 87) (nm := "sheet") (ds := "[I") (b_43 _) rfl rfl hn12 (Nat.le_of_ble_eq_true rfl) rfl rfl (List.mem_cons_of_mem _ (List.mem_append_left _ (List.mem_of_getElem? (i := 3) rfl))) (Or.inl rfl) dX12_copy_152 ?_
      refine go_bipush hC dX12_copy_155 k8_100 ?_
      refine go_iload_n hC dX12_copy_157 rfl 1 rfl ?_
      refine go_imul hC dX12_copy_158 ?_
      refine go_iload hC dX12_copy_159 2 rfl ?_
      refine go_iadd hC dX12_copy_161 ?_
      refine go_iload hC dX12_copy_162 4 rfl ?_
      refine go_iadd hC dX12_copy_164 ?_
      refine go_aload_n hC dX12_copy_165 rfl 0 rfl ?_
      refine go_getr hC (j := 43) (idx := 90) (nm := "hands") (ds := "[I") (b_43 _) rfl rfl hn12 (Nat.le_of_ble_eq_true rfl) rfl rfl (List.mem_cons_of_mem _ (List.mem_append_left _ (List.mem_of_getElem? (i := 2) rfl))) (Or.inl rfl) dX12_copy_166 ?_
      refine go_iload hC dX12_copy_169 4 rfl ?_
      obtain ⟨g_33, hf⟩ := ga_e hf
      refine go_iald hC (b_70 _) g_33 dX12_copy_171 ?_
      obtain ⟨g_34, hf⟩ := ga_e hf
      obtain ⟨h_35, eh_35, hf⟩ := lt_e hf
      refine go_iast hC (b_69 _) g_34 dX12_copy_172 ?_
      refine go_toph eh_35 ?_
      obtain ⟨x6_36, ex6_36, hf⟩ := lt_e hf
      refine go_iinc hC dX12_copy_173 4 rfl k1_1 ex6_36 (Nat.le_of_ble_eq_true rfl) rfl ?_
      refine go_goto hC dX12_copy_176 (tgt := 144) (by decide) ?_
      obtain rfl := so_1 hf
      refine go_sub [1, 2, 3, 4, 0] rfl ?_
      exact ih x6_36 h_35 _ (lp_c hy) hk
theorem e_X12_copy : yX12_copy.cls = RX12 ∧ yX12_copy.cls ≠ "java/lang/invoke/MethodHandle" ∧ yX12_copy.cls ≠ "java/lang/invoke/VarHandle" ∧ (parseMethodDescriptor yX12_copy.desc).map (fun d => d.parameters.length) = some 5 := by decide +kernel
set_option maxRecDepth 100000 in
set_option maxHeartbeats 4000000 in
theorem c_X12_copy (x1 : Int32) (x2 : Int32) (x3 : Int32) (x4 : Int32) (x5 : Int32) (h : PH) (h2 : PH) (r : Int32) (hf : f_X12_copy x1 x2 x3 x4 x5 h = some (r, h2)) : Con yX12_copy wsX12_copy (rm_d 2) l0_B [.ref 43, .int x1, .int x2, .int x3, .int x4, .int x5] h (some (.int r)) h2 := by
  have hn12 : ∀ w ∈ wsX120, w ∈ wsX12_copy := (fun _ hw => (List.mem_cons_of_mem _ (List.mem_append_right _ hw)))
  refine con_i (ty := .int) (cc := cX12_copy) (nL := 7) (by decide) rfl (Nat.le_of_ble_eq_true rfl) ?_
  intro C hC hret
  change Go l0_B C 0 0 0 [(0, .ref 43), (1, .int x1), (2, .int x2), (3, .int x3), (4, .int x4), (5, .int x5)] [] h
  unfold f_X12_copy at hf
  refine go_iload_n hC dX12_copy_0 rfl 1 rfl ?_
  obtain ⟨r_1, hc, hf⟩ := bd_e1 hf
  refine go_callS hC (c_X12_noSheet x1 h r_1 hc) gX12_copy_X12_noSheet rfl ⟨rfl, rfl⟩ 1 e_X12_noSheet ⟨Nat.le_of_ble_eq_true rfl, Nat.le_of_ble_eq_true rfl⟩ rfl (st := []) (st1 := [.int r_1]) rfl rfl (Nat.le_of_ble_eq_true rfl) ⟨Nat.zero_le _, Nat.zero_le _⟩ dX12_copy_1 ?_
  refine go_if_ne hC dX12_copy_4 (tgt := 14) (by decide) (fun c_55 => ?_) (fun c_55 => ?_)
  · replace hf := if_f c_55 hf
    refine go_aload_n hC dX12_copy_14 rfl 0 rfl ?_
    refine go_iconst hC dX12_copy_15 k1_m1 ?_
    obtain ⟨r_2, h_3, hc, hf⟩ := bd_e2 hf
    refine go_callV hC (c_X12_refused (-1) h h_3 r_2 hc) gX12_copy_X12_refused rfl ⟨rfl, rfl⟩ 1 e_X12_refused ⟨Nat.le_of_ble_eq_true rfl, Nat.le_of_ble_eq_true rfl⟩ (b_43 _) rfl rfl (st := []) (st1 := [.int r_2]) rfl rfl (Nat.le_of_ble_eq_true rfl) ⟨Nat.zero_le _, Nat.zero_le _⟩ dX12_copy_16 ?_
    obtain ⟨rfl, rfl⟩ := so_2 hf
    exact hret _ _ rfl dX12_copy_19
  · replace hf := if_t c_55 hf
    refine go_iload_n hC dX12_copy_7 rfl 3 rfl ?_
    obtain ⟨r_4, hc, hf⟩ := bd_e1 hf
    refine go_callS hC (c_X12_noSheet x3 h r_4 hc) gX12_copy_X12_noSheet rfl ⟨rfl, rfl⟩ 1 e_X12_noSheet ⟨Nat.le_of_ble_eq_true rfl, Nat.le_of_ble_eq_true rfl⟩ rfl (st := []) (st1 := [.int r_4]) rfl rfl (Nat.le_of_ble_eq_true rfl) ⟨Nat.zero_le _, Nat.zero_le _⟩ dX12_copy_8 ?_
    refine go_if_eq hC dX12_copy_11 (tgt := 20) (by decide) (fun c_54 => ?_) (fun c_54 => ?_)
    · replace hf := if_t c_54 hf
      refine go_aload_n hC dX12_copy_20 rfl 0 rfl ?_
      refine go_getr hC (j := 40) (idx := 81) (nm := "sheetSize") (ds := "[I") (b_43 _) rfl rfl hn12 (Nat.le_of_ble_eq_true rfl) rfl rfl (List.mem_cons_of_mem _ (List.mem_append_left _ (List.mem_of_getElem? (i := 0) rfl))) (Or.inl rfl) dX12_copy_21 ?_
      refine go_iload_n hC dX12_copy_24 rfl 1 rfl ?_
      obtain ⟨g_5, hf⟩ := ga_e hf
      refine go_iald hC (b_67 _) g_5 dX12_copy_25 ?_
      refine go_if_lt hC dX12_copy_26 (tgt := 38) (by decide) (fun c_51 => ?_) (fun c_51 => ?_)
      · replace hf := if_t c_51 hf
        refine go_aload_n hC dX12_copy_38 rfl 0 rfl ?_
        refine go_iconst hC dX12_copy_39 k1_1 ?_
        obtain ⟨r_6, h_7, hc, hf⟩ := bd_e2 hf
        refine go_callV hC (c_X12_failed 1 h h_7 r_6 hc) gX12_copy_X12_failed rfl ⟨rfl, rfl⟩ 1 e_X12_failed ⟨Nat.le_of_ble_eq_true rfl, Nat.le_of_ble_eq_true rfl⟩ (b_43 _) rfl rfl (st := []) (st1 := [.int r_6]) rfl rfl (Nat.le_of_ble_eq_true rfl) ⟨Nat.zero_le _, Nat.zero_le _⟩ dX12_copy_40 ?_
        obtain ⟨rfl, rfl⟩ := so_2 hf
        exact hret _ _ rfl dX12_copy_43
      · replace hf := if_f c_51 hf
        refine go_aload_n hC dX12_copy_29 rfl 0 rfl ?_
        refine go_getr hC (j := 40) (idx := 81) (nm := "sheetSize") (ds := "[I") (b_43 _) rfl rfl hn12 (Nat.le_of_ble_eq_true rfl) rfl rfl (List.mem_cons_of_mem _ (List.mem_append_left _ (List.mem_of_getElem? (i := 0) rfl))) (Or.inl rfl) dX12_copy_30 ?_
        refine go_iload_n hC dX12_copy_33 rfl 3 rfl ?_
        obtain ⟨g_8, hf⟩ := ga_e hf
        refine go_iald hC (b_67 _) g_8 dX12_copy_34 ?_
        refine go_if_ge hC dX12_copy_35 (tgt := 44) (by decide) (fun c_50 => ?_) (fun c_50 => ?_)
        · replace hf := if_t c_50 hf
          refine go_aload_n hC dX12_copy_44 rfl 0 rfl ?_
          refine go_getr hC (j := 41) (idx := 84) (nm := "sheetLane") (ds := "[I") (b_43 _) rfl rfl hn12 (Nat.le_of_ble_eq_true rfl) rfl rfl (List.mem_cons_of_mem _ (List.mem_append_left _ (List.mem_of_getElem? (i := 1) rfl))) (Or.inl rfl) dX12_copy_45 ?_
          refine go_iload_n hC dX12_copy_48 rfl 1 rfl ?_
          obtain ⟨g_9, hf⟩ := ga_e hf
          refine go_iald hC (b_68 _) g_9 dX12_copy_49 ?_
          refine go_aload_n hC dX12_copy_50 rfl 0 rfl ?_
          refine go_getr hC (j := 41) (idx := 84) (nm := "sheetLane") (ds := "[I") (b_43 _) rfl rfl hn12 (Nat.le_of_ble_eq_true rfl) rfl rfl (List.mem_cons_of_mem _ (List.mem_append_left _ (List.mem_of_getElem? (i := 1) rfl))) (Or.inl rfl) dX12_copy_51 ?_
          refine go_iload_n hC dX12_copy_54 rfl 3 rfl ?_
          obtain ⟨g_10, hf⟩ := ga_e hf
          refine go_iald hC (b_68 _) g_10 dX12_copy_55 ?_
          refine go_icmp_eq hC dX12_copy_56 (tgt := 65) (by decide) (fun c_47 => ?_) (fun c_47 => ?_)
          · replace hf := if_t c_47 hf
            refine go_iload_n hC dX12_copy_65 rfl 2 rfl ?_
            refine go_iload hC dX12_copy_66 5 rfl ?_
            refine go_i2l hC dX12_copy_68 ?_
            refine go_aload_n hC dX12_copy_69 rfl 0 rfl ?_
            refine go_getr hC (j := 40) (idx := 81) (nm := "sheetSize") (ds := "[I") (b_43 _) rfl rfl hn12 (Nat.le_of_ble_eq_true rfl) rfl rfl (List.mem_cons_of_mem _ (List.mem_append_left _ (List.mem_of_getElem? (i := 0) rfl))) (Or.inl rfl) dX12_copy_70 ?_
            refine go_iload_n hC dX12_copy_73 rfl 1 rfl ?_
            obtain ⟨g_11, hf⟩ := ga_e hf
            refine go_iald hC (b_67 _) g_11 dX12_copy_74 ?_
            obtain ⟨r_12, hc, hf⟩ := bd_e1 hf
            refine go_callS hC (c_X12_isBeyond x2 x5.toInt64 (h.1 67 x1.toNatClampNeg) h r_12 hc) gX12_copy_X12_isBeyond rfl ⟨rfl, rfl⟩ 3 e_X12_isBeyond ⟨Nat.le_of_ble_eq_true rfl, Nat.le_of_ble_eq_true rfl⟩ rfl (st := []) (st1 := [.int r_12]) rfl rfl (Nat.le_of_ble_eq_true rfl) ⟨Nat.zero_le _, Nat.zero_le _⟩ dX12_copy_75 ?_
            refine go_if_ne hC dX12_copy_78 (tgt := 98) (by decide) (fun c_44 => ?_) (fun c_44 => ?_)
            · replace hf := if_f c_44 hf
              refine go_aload_n hC dX12_copy_98 rfl 0 rfl ?_
              refine go_iconst hC dX12_copy_99 k1_3 ?_
              obtain ⟨r_13, h_14, hc, hf⟩ := bd_e2 hf
              refine go_callV hC (c_X12_failed 3 h h_14 r_13 hc) gX12_copy_X12_failed rfl ⟨rfl, rfl⟩ 1 e_X12_failed ⟨Nat.le_of_ble_eq_true rfl, Nat.le_of_ble_eq_true rfl⟩ (b_43 _) rfl rfl (st := []) (st1 := [.int r_13]) rfl rfl (Nat.le_of_ble_eq_true rfl) ⟨Nat.zero_le _, Nat.zero_le _⟩ dX12_copy_100 ?_
              obtain ⟨rfl, rfl⟩ := so_2 hf
              exact hret _ _ rfl dX12_copy_103
            · replace hf := if_t c_44 hf
              refine go_iload hC dX12_copy_81 4 rfl ?_
              refine go_iload hC dX12_copy_83 5 rfl ?_
              refine go_i2l hC dX12_copy_85 ?_
              refine go_aload_n hC dX12_copy_86 rfl 0 rfl ?_
              refine go_getr hC (j := 40) (idx := 81) (nm := "sheetSize") (ds := "[I") (b_43 _) rfl rfl hn12 (Nat.le_of_ble_eq_true rfl) rfl rfl (List.mem_cons_of_mem _ (List.mem_append_left _ (List.mem_of_getElem? (i := 0) rfl))) (Or.inl rfl) dX12_copy_87 ?_
              refine go_iload_n hC dX12_copy_90 rfl 3 rfl ?_
              obtain ⟨g_15, hf⟩ := ga_e hf
              refine go_iald hC (b_67 _) g_15 dX12_copy_91 ?_
              obtain ⟨r_16, hc, hf⟩ := bd_e1 hf
              refine go_callS hC (c_X12_isBeyond x4 x5.toInt64 (h.1 67 x3.toNatClampNeg) h r_16 hc) gX12_copy_X12_isBeyond rfl ⟨rfl, rfl⟩ 3 e_X12_isBeyond ⟨Nat.le_of_ble_eq_true rfl, Nat.le_of_ble_eq_true rfl⟩ rfl (st := []) (st1 := [.int r_16]) rfl rfl (Nat.le_of_ble_eq_true rfl) ⟨Nat.zero_le _, Nat.zero_le _⟩ dX12_copy_92 ?_
              refine go_if_eq hC dX12_copy_95 (tgt := 104) (by decide) (fun c_43 => ?_) (fun c_43 => ?_)
              · replace hf := if_t c_43 hf
                refine go_iconst hC dX12_copy_104 k1_0 ?_
                refine go_istore hC dX12_copy_105 (Nat.le_of_ble_eq_true rfl) rfl ?_
                obtain ⟨s_27, hl, hf⟩ := bd_e1 hf
                refine go_sub [1, 2, 3, 4, 5, 6, 0] rfl ?_
                refine lw_X12_copy_107 hC x1 x2 x3 x4 x5 _ 0 h s_27 hl ?_
                refine go_iconst hC dX12_copy_141 k1_0 ?_
                refine go_istore hC dX12_copy_142 (Nat.le_of_ble_eq_true rfl) rfl ?_
                obtain ⟨s_38, hl, hf⟩ := bd_e1 hf
                refine go_sub [1, 2, 3, 4, 0] rfl ?_
                refine lw_X12_copy_144 hC x3 x4 x5 _ 0 s_27.2 s_38 hl ?_
                refine go_aload_n hC dX12_copy_179 rfl 0 rfl ?_
                refine go_iload hC dX12_copy_180 1 rfl ?_
                obtain ⟨r_39, h_40, hc, hf⟩ := bd_e2 hf
                refine go_callV hC (c_X12_refused x5 s_38.2 h_40 r_39 hc) gX12_copy_X12_refused rfl ⟨rfl, rfl⟩ 1 e_X12_refused ⟨Nat.le_of_ble_eq_true rfl, Nat.le_of_ble_eq_true rfl⟩ (b_43 _) rfl rfl (st := []) (st1 := [.int r_39]) rfl rfl (Nat.le_of_ble_eq_true rfl) ⟨Nat.zero_le _, Nat.zero_le _⟩ dX12_copy_182 ?_
                obtain ⟨rfl, rfl⟩ := so_2 hf
                exact hret _ _ rfl dX12_copy_185
              · replace hf := if_f c_43 hf
                refine go_aload_n hC dX12_copy_98 rfl 0 rfl ?_
                refine go_iconst hC dX12_copy_99 k1_3 ?_
                obtain ⟨r_41, h_42, hc, hf⟩ := bd_e2 hf
                refine go_callV hC (c_X12_failed 3 h h_42 r_41 hc) gX12_copy_X12_failed rfl ⟨rfl, rfl⟩ 1 e_X12_failed ⟨Nat.le_of_ble_eq_true rfl, Nat.le_of_ble_eq_true rfl⟩ (b_43 _) rfl rfl (st := []) (st1 := [.int r_41]) rfl rfl (Nat.le_of_ble_eq_true rfl) ⟨Nat.zero_le _, Nat.zero_le _⟩ dX12_copy_100 ?_
                obtain ⟨rfl, rfl⟩ := so_2 hf
                exact hret _ _ rfl dX12_copy_103
          · replace hf := if_f c_47 hf
            refine go_aload_n hC dX12_copy_59 rfl 0 rfl ?_
            refine go_iconst hC dX12_copy_60 k1_2 ?_
            obtain ⟨r_45, h_46, hc, hf⟩ := bd_e2 hf
            refine go_callV hC (c_X12_failed 2 h h_46 r_45 hc) gX12_copy_X12_failed rfl ⟨rfl, rfl⟩ 1 e_X12_failed ⟨Nat.le_of_ble_eq_true rfl, Nat.le_of_ble_eq_true rfl⟩ (b_43 _) rfl rfl (st := []) (st1 := [.int r_45]) rfl rfl (Nat.le_of_ble_eq_true rfl) ⟨Nat.zero_le _, Nat.zero_le _⟩ dX12_copy_61 ?_
            obtain ⟨rfl, rfl⟩ := so_2 hf
            exact hret _ _ rfl dX12_copy_64
        · replace hf := if_f c_50 hf
          refine go_aload_n hC dX12_copy_38 rfl 0 rfl ?_
          refine go_iconst hC dX12_copy_39 k1_1 ?_
          obtain ⟨r_48, h_49, hc, hf⟩ := bd_e2 hf
          refine go_callV hC (c_X12_failed 1 h h_49 r_48 hc) gX12_copy_X12_failed rfl ⟨rfl, rfl⟩ 1 e_X12_failed ⟨Nat.le_of_ble_eq_true rfl, Nat.le_of_ble_eq_true rfl⟩ (b_43 _) rfl rfl (st := []) (st1 := [.int r_48]) rfl rfl (Nat.le_of_ble_eq_true rfl) ⟨Nat.zero_le _, Nat.zero_le _⟩ dX12_copy_40 ?_
          obtain ⟨rfl, rfl⟩ := so_2 hf
          exact hret _ _ rfl dX12_copy_43
    · replace hf := if_f c_54 hf
      refine go_aload_n hC dX12_copy_14 rfl 0 rfl ?_
      refine go_iconst hC dX12_copy_15 k1_m1 ?_
      obtain ⟨r_52, h_53, hc, hf⟩ := bd_e2 hf
      refine go_callV hC (c_X12_refused (-1) h h_53 r_52 hc) gX12_copy_X12_refused rfl ⟨rfl, rfl⟩ 1 e_X12_refused ⟨Nat.le_of_ble_eq_true rfl, Nat.le_of_ble_eq_true rfl⟩ (b_43 _) rfl rfl (st := []) (st1 := [.int r_52]) rfl rfl (Nat.le_of_ble_eq_true rfl) ⟨Nat.zero_le _, Nat.zero_le _⟩ dX12_copy_16 ?_
      obtain ⟨rfl, rfl⟩ := so_2 hf
      exact hret _ _ rfl dX12_copy_19
def f_X12_traced (x1 : Int32) (h : PH) : Option (Unit × PH) :=
  lt_b (ph_i h 43 44 ((31 * (h.1 43 44)) + x1)) fun h_1 =>
  some ((), h_1)
theorem e_X12_traced : yX12_traced.cls = RX12 ∧ yX12_traced.cls ≠ "java/lang/invoke/MethodHandle" ∧ yX12_traced.cls ≠ "java/lang/invoke/VarHandle" ∧ (parseMethodDescriptor yX12_traced.desc).map (fun d => d.parameters.length) = some 1 := by decide +kernel
set_option maxRecDepth 100000 in
set_option maxHeartbeats 4000000 in
theorem c_X12_traced (x1 : Int32) (h : PH) (h2 : PH) (hf : f_X12_traced x1 h = some ((), h2)) : Con yX12_traced wsX12_traced (rm_d 0) l0_B [.ref 43, .int x1] h none h2 := by
  have hn12 : ∀ w ∈ wsX120, w ∈ wsX12_traced := (fun _ hw => (List.mem_cons_of_mem _ (List.mem_append_right _ hw)))
  refine con_v (cc := cX12_traced) (nL := 2) (by decide) rfl (Nat.le_of_ble_eq_true rfl) ?_
  intro C hC hret
  change Go l0_B C 0 0 0 [(0, .ref 43), (1, .int x1)] [] h
  unfold f_X12_traced at hf
  refine go_aload_n hC dX12_traced_0 rfl 0 rfl ?_
  refine go_bipush hC dX12_traced_1 k8_31 ?_
  refine go_aload_n hC dX12_traced_3 rfl 0 rfl ?_
  refine go_geti hC (j := 44) (idx := 343) (nm := "traceNow") (ds := "I") (b_43 _) rfl rfl hn12 (Nat.le_of_ble_eq_true rfl) rfl rfl (List.mem_cons_of_mem _ (List.mem_append_left _ (List.mem_of_getElem? (i := 0) rfl))) (Or.inl rfl) dX12_traced_4 ?_
  refine go_imul hC dX12_traced_7 ?_
  refine go_iload_n hC dX12_traced_8 rfl 1 rfl ?_
  refine go_iadd hC dX12_traced_9 ?_
  obtain ⟨h_1, eh_1, hf⟩ := lt_e hf
  refine go_puti hC tyX12 (j := 44) (idx := 343) (nm := "traceNow") (ds := "I") (b_43 _) rfl rfl hn12 tyX12_ok nmX12 (Nat.le_of_ble_eq_true rfl) rfl rfl (List.mem_cons_of_mem _ (List.mem_append_left _ (List.mem_of_getElem? (i := 0) rfl))) (Or.inl rfl) rfl (tyX12_ok _ (Nat.le_of_ble_eq_true rfl)) dX12_traced_10 ?_
  refine go_toph eh_1 ?_
  obtain ⟨-, rfl⟩ := so_2 hf
  exact hret _ _ dX12_traced_13
def f_X12_tell (x1 : Int32) (h : PH) : Option (Int32 × PH) :=
  bd_1 (f_X12_noWay x1 h) fun r_1 =>
  if r_1 = 0 then (
  ga_i x1 6 (
  lt_b (h.1 58 x1.toNatClampNeg) fun x2_3 =>
  if x2_3 = 2 then (
  bd_2 (f_X12_traced 3 h) fun r_33 h_34 =>
  if x2_3 ≤ 0 then (
  bd_2 (f_X12_traced 1 h_34) fun r_35 h_36 =>
  if x2_3 = 2 then (
  bd_2 (f_X12_traced 1 h_36) fun r_41 h_42 =>
  ga_i x1 6 (
  lt_b (h_42.1 60 x1.toNatClampNeg) fun x3_44 =>
  if x2_3 = 0 then (
  some (x3_44, h_42))
  else (
  if x2_3 = 1 then (
  some (x3_44 + 100, h_42))
  else (
  some ((2 * x3_44) + 100, h_42)))))
  else (
  ga_i x1 6 (
  lt_b (h_36.1 60 x1.toNatClampNeg) fun x3_38 =>
  if x2_3 = 0 then (
  some (x3_38, h_36))
  else (
  if x2_3 = 1 then (
  some (x3_38 + 100, h_36))
  else (
  some ((2 * x3_38) + 100, h_36))))))
  else (
  bd_2 (f_X12_traced 2 h_34) fun r_48 h_49 =>
  bd_2 (f_X12_traced 1 h_49) fun r_50 h_51 =>
  if x2_3 = 2 then (
  bd_2 (f_X12_traced 1 h_51) fun r_56 h_57 =>
  ga_i x1 6 (
  lt_b (h_57.1 60 x1.toNatClampNeg) fun x3_59 =>
  if x2_3 = 0 then (
  some (x3_59, h_57))
  else (
  if x2_3 = 1 then (
  some (x3_59 + 100, h_57))
  else (
  some ((2 * x3_59) + 100, h_57)))))
  else (
  ga_i x1 6 (
  lt_b (h_51.1 60 x1.toNatClampNeg) fun x3_53 =>
  if x2_3 = 0 then (
  some (x3_53, h_51))
  else (
  if x2_3 = 1 then (
  some (x3_53 + 100, h_51))
  else (
  some ((2 * x3_53) + 100, h_51)))))))
  else (
  if x2_3 ≤ 0 then (
  bd_2 (f_X12_traced 1 h) fun r_4 h_5 =>
  if x2_3 = 2 then (
  bd_2 (f_X12_traced 1 h_5) fun r_10 h_11 =>
  ga_i x1 6 (
  lt_b (h_11.1 60 x1.toNatClampNeg) fun x3_13 =>
  if x2_3 = 0 then (
  some (x3_13, h_11))
  else (
  if x2_3 = 1 then (
  some (x3_13 + 100, h_11))
  else (
  some ((2 * x3_13) + 100, h_11)))))
  else (
  ga_i x1 6 (
  lt_b (h_5.1 60 x1.toNatClampNeg) fun x3_7 =>
  if x2_3 = 0 then (
  some (x3_7, h_5))
  else (
  if x2_3 = 1 then (
  some (x3_7 + 100, h_5))
  else (
  some ((2 * x3_7) + 100, h_5))))))
  else (
  bd_2 (f_X12_traced 2 h) fun r_17 h_18 =>
  bd_2 (f_X12_traced 1 h_18) fun r_19 h_20 =>
  if x2_3 = 2 then (
  bd_2 (f_X12_traced 1 h_20) fun r_25 h_26 =>
  ga_i x1 6 (
  lt_b (h_26.1 60 x1.toNatClampNeg) fun x3_28 =>
  if x2_3 = 0 then (
  some (x3_28, h_26))
  else (
  if x2_3 = 1 then (
  some (x3_28 + 100, h_26))
  else (
  some ((2 * x3_28) + 100, h_26)))))
  else (
  ga_i x1 6 (
  lt_b (h_20.1 60 x1.toNatClampNeg) fun x3_22 =>
  if x2_3 = 0 then (
  some (x3_22, h_20))
  else (
  if x2_3 = 1 then (
  some (x3_22 + 100, h_20))
  else (
  some ((2 * x3_22) + 100, h_20)))))))))
  else (
  some ((-1), h))
theorem e_X12_tell : yX12_tell.cls = RX12 ∧ yX12_tell.cls ≠ "java/lang/invoke/MethodHandle" ∧ yX12_tell.cls ≠ "java/lang/invoke/VarHandle" ∧ (parseMethodDescriptor yX12_tell.desc).map (fun d => d.parameters.length) = some 1 := by decide +kernel
set_option maxRecDepth 100000 in
set_option maxHeartbeats 4000000 in
theorem c_X12_tell (x1 : Int32) (h : PH) (h2 : PH) (r : Int32) (hf : f_X12_tell x1 h = some (r, h2)) : Con yX12_tell wsX12_tell (rm_d 2) l0_B [.ref 43, .int x1] h (some (.int r)) h2 := by
  have hn12 : ∀ w ∈ wsX120, w ∈ wsX12_tell := (fun _ hw => (List.mem_cons_of_mem _ (List.mem_append_right _ hw)))
  refine con_i (ty := .int) (cc := cX12_tell) (nL := 4) (by decide) rfl (Nat.le_of_ble_eq_true rfl) ?_
  intro C hC hret
  change Go l0_B C 0 0 0 [(0, .ref 43), (1, .int x1)] [] h
  unfold f_X12_tell at hf
  refine go_aload_n hC dX12_tell_0 rfl 0 rfl ?_
  refine go_iload_n hC dX12_tell_1 rfl 1 rfl ?_
  obtain ⟨r_1, hc, hf⟩ := bd_e1 hf
  refine go_callV hC (c_X12_noWay x1 h r_1 hc) gX12_tell_X12_noWay rfl ⟨rfl, rfl⟩ 1 e_X12_noWay ⟨Nat.le_of_ble_eq_true rfl, Nat.le_of_ble_eq_true rfl⟩ (b_43 _) rfl rfl (st := []) (st1 := [.int r_1]) rfl rfl (Nat.le_of_ble_eq_true rfl) ⟨Nat.zero_le _, Nat.zero_le _⟩ dX12_tell_2 ?_
  refine go_if_eq hC dX12_tell_5 (tgt := 10) (by decide) (fun c_65 => ?_) (fun c_65 => ?_)
  · replace hf := if_t c_65 hf
    refine go_aload_n hC dX12_tell_10 rfl 0 rfl ?_
    refine go_getr hC (j := 25) (idx := 53) (nm := "wayKind") (ds := "[I") (b_43 _) rfl rfl hn12 (Nat.le_of_ble_eq_true rfl) rfl rfl (List.mem_cons_of_mem _ (List.mem_append_left _ (List.mem_of_getElem? (i := 0) rfl))) (Or.inl rfl) dX12_tell_11 ?_
    refine go_iload_n hC dX12_tell_14 rfl 1 rfl ?_
    obtain ⟨g_2, hf⟩ := ga_e hf
    refine go_iald hC (b_58 _) g_2 dX12_tell_15 ?_
    obtain ⟨x2_3, ex2_3, hf⟩ := lt_e hf
    refine go_topi ex2_3 ?_
    refine go_istore_n hC dX12_tell_16 rfl (Nat.le_of_ble_eq_true rfl) rfl ?_
    refine go_iload_n hC dX12_tell_17 rfl 0 rfl ?_
    refine go_iconst hC dX12_tell_18 k1_2 ?_
    refine go_icmp_ne hC dX12_tell_19 (tgt := 27) (by decide) (fun c_64 => ?_) (fun c_64 => ?_)
    · replace hf := if_f c_64 hf
      refine go_iload_n hC dX12_tell_27 rfl 0 rfl ?_
      refine go_if_le hC dX12_tell_28 (tgt := 36) (by decide) (fun c_32 => ?_) (fun c_32 => ?_)
      · replace hf := if_t c_32 hf
        refine go_aload_n hC dX12_tell_36 rfl 1 rfl ?_
        refine go_iconst hC dX12_tell_37 k1_1 ?_
        obtain ⟨r_4, h_5, hc, hf⟩ := bd_e2 hf
        refine go_callV hC (c_X12_traced 1 h h_5 hc) gX12_tell_X12_traced rfl ⟨rfl, rfl⟩ 1 e_X12_traced ⟨Nat.le_of_ble_eq_true rfl, Nat.le_of_ble_eq_true rfl⟩ (b_43 _) rfl rfl (st := []) (st1 := []) rfl rfl (Nat.le_of_ble_eq_true rfl) ⟨Nat.zero_le _, Nat.zero_le _⟩ dX12_tell_38 ?_
        refine go_iload_n hC dX12_tell_41 rfl 0 rfl ?_
        refine go_iconst hC dX12_tell_42 k1_2 ?_
        refine go_icmp_ne hC dX12_tell_43 (tgt := 51) (by decide) (fun c_16 => ?_) (fun c_16 => ?_)
        · replace hf := if_f c_16 hf
          refine go_aload_n hC dX12_tell_51 rfl 1 rfl ?_
          refine go_getr hC (j := 27) (idx := 59) (nm := "wayMany") (ds := "[I") (b_43 _) rfl rfl hn12 (Nat.le_of_ble_eq_true rfl) rfl rfl (List.mem_cons_of_mem _ (List.mem_append_left _ (List.mem_of_getElem? (i := 1) rfl))) (Or.inl rfl) dX12_tell_52 ?_
          refine go_iload_n hC dX12_tell_55 rfl 2 rfl ?_
          obtain ⟨g_6, hf⟩ := ga_e hf
          refine go_iald hC (b_60 _) g_6 dX12_tell_56 ?_
          obtain ⟨x3_7, ex3_7, hf⟩ := lt_e hf
          refine go_topi ex3_7 ?_
          refine go_istore_n hC dX12_tell_57 rfl (Nat.le_of_ble_eq_true rfl) rfl ?_
          refine go_iload_n hC dX12_tell_58 rfl 1 rfl ?_
          refine go_if_ne hC dX12_tell_59 (tgt := 66) (by decide) (fun c_9 => ?_) (fun c_9 => ?_)
          · replace hf := if_f c_9 hf
            refine go_iload_n hC dX12_tell_66 rfl 1 rfl ?_
            refine go_iconst hC dX12_tell_67 k1_1 ?_
            refine go_icmp_ne hC dX12_tell_68 (tgt := 78) (by decide) (fun c_8 => ?_) (fun c_8 => ?_)
            · replace hf := if_f c_8 hf
              refine go_iconst hC dX12_tell_78 k1_2 ?_
              refine go_iload_n hC dX12_tell_79 rfl 0 rfl ?_
              refine go_imul hC dX12_tell_80 ?_
              refine go_bipush hC dX12_tell_81 k8_100 ?_
              refine go_iadd hC dX12_tell_83 ?_
              obtain ⟨rfl, rfl⟩ := so_2 hf
              exact hret _ _ rfl dX12_tell_84
            · replace hf := if_t c_8 hf
              refine go_iload_n hC dX12_tell_71 rfl 0 rfl ?_
              refine go_bipush hC dX12_tell_72 k8_100 ?_
              refine go_iadd hC dX12_tell_74 ?_
              refine go_goto hC dX12_tell_75 (tgt := 84) (by decide) ?_
              obtain ⟨rfl, rfl⟩ := so_2 hf
              exact hret _ _ rfl dX12_tell_84
          · replace hf := if_t c_9 hf
            refine go_iload_n hC dX12_tell_62 rfl 0 rfl ?_
            refine go_goto hC dX12_tell_63 (tgt := 84) (by decide) ?_
            obtain ⟨rfl, rfl⟩ := so_2 hf
            exact hret _ _ rfl dX12_tell_84
        · replace hf := if_t c_16 hf
          refine go_aload_n hC dX12_tell_46 rfl 1 rfl ?_
          refine go_iconst hC dX12_tell_47 k1_1 ?_
          obtain ⟨r_10, h_11, hc, hf⟩ := bd_e2 hf
          refine go_callV hC (c_X12_traced 1 h_5 h_11 hc) gX12_tell_X12_traced rfl ⟨rfl, rfl⟩ 1 e_X12_traced ⟨Nat.le_of_ble_eq_true rfl, Nat.le_of_ble_eq_true rfl⟩ (b_43 _) rfl rfl (st := []) (st1 := []) rfl rfl (Nat.le_of_ble_eq_true rfl) ⟨Nat.zero_le _, Nat.zero_le _⟩ dX12_tell_48 ?_
          refine go_aload_n hC dX12_tell_51 rfl 1 rfl ?_
          refine go_getr hC (j := 27) (idx := 59) (nm := "wayMany") (ds := "[I") (b_43 _) rfl rfl hn12 (Nat.le_of_ble_eq_true rfl) rfl rfl (List.mem_cons_of_mem _ (List.mem_append_left _ (List.mem_of_getElem? (i := 1) rfl))) (Or.inl rfl) dX12_tell_52 ?_
          refine go_iload_n hC dX12_tell_55 rfl 2 rfl ?_
          obtain ⟨g_12, hf⟩ := ga_e hf
          refine go_iald hC (b_60 _) g_12 dX12_tell_56 ?_
          obtain ⟨x3_13, ex3_13, hf⟩ := lt_e hf
          refine go_topi ex3_13 ?_
          refine go_istore_n hC dX12_tell_57 rfl (Nat.le_of_ble_eq_true rfl) rfl ?_
          refine go_iload_n hC dX12_tell_58 rfl 1 rfl ?_
          refine go_if_ne hC dX12_tell_59 (tgt := 66) (by decide) (fun c_15 => ?_) (fun c_15 => ?_)
          · replace hf := if_f c_15 hf
            refine go_iload_n hC dX12_tell_66 rfl 1 rfl ?_
            refine go_iconst hC dX12_tell_67 k1_1 ?_
            refine go_icmp_ne hC dX12_tell_68 (tgt := 78) (by decide) (fun c_14 => ?_) (fun c_14 => ?_)
            · replace hf := if_f c_14 hf
              refine go_iconst hC dX12_tell_78 k1_2 ?_
              refine go_iload_n hC dX12_tell_79 rfl 0 rfl ?_
              refine go_imul hC dX12_tell_80 ?_
              refine go_bipush hC dX12_tell_81 k8_100 ?_
              refine go_iadd hC dX12_tell_83 ?_
              obtain ⟨rfl, rfl⟩ := so_2 hf
              exact hret _ _ rfl dX12_tell_84
            · replace hf := if_t c_14 hf
              refine go_iload_n hC dX12_tell_71 rfl 0 rfl ?_
              refine go_bipush hC dX12_tell_72 k8_100 ?_
              refine go_iadd hC dX12_tell_74 ?_
              refine go_goto hC dX12_tell_75 (tgt := 84) (by decide) ?_
              obtain ⟨rfl, rfl⟩ := so_2 hf
              exact hret _ _ rfl dX12_tell_84
          · replace hf := if_t c_15 hf
            refine go_iload_n hC dX12_tell_62 rfl 0 rfl ?_
            refine go_goto hC dX12_tell_63 (tgt := 84) (by decide) ?_
            obtain ⟨rfl, rfl⟩ := so_2 hf
            exact hret _ _ rfl dX12_tell_84
      · replace hf := if_f c_32 hf
        refine go_aload_n hC dX12_tell_31 rfl 1 rfl ?_
        refine go_iconst hC dX12_tell_32 k1_2 ?_
        obtain ⟨r_17, h_18, hc, hf⟩ := bd_e2 hf
        refine go_callV hC (c_X12_traced 2 h h_18 hc) gX12_tell_X12_traced rfl ⟨rfl, rfl⟩ 1 e_X12_traced ⟨Nat.le_of_ble_eq_true rfl, Nat.le_of_ble_eq_true rfl⟩ (b_43 _) rfl rfl (st := []) (st1 := []) rfl rfl (Nat.le_of_ble_eq_true rfl) ⟨Nat.zero_le _, Nat.zero_le _⟩ dX12_tell_33 ?_
        refine go_aload_n hC dX12_tell_36 rfl 1 rfl ?_
        refine go_iconst hC dX12_tell_37 k1_1 ?_
        obtain ⟨r_19, h_20, hc, hf⟩ := bd_e2 hf
        refine go_callV hC (c_X12_traced 1 h_18 h_20 hc) gX12_tell_X12_traced rfl ⟨rfl, rfl⟩ 1 e_X12_traced ⟨Nat.le_of_ble_eq_true rfl, Nat.le_of_ble_eq_true rfl⟩ (b_43 _) rfl rfl (st := []) (st1 := []) rfl rfl (Nat.le_of_ble_eq_true rfl) ⟨Nat.zero_le _, Nat.zero_le _⟩ dX12_tell_38 ?_
        refine go_iload_n hC dX12_tell_41 rfl 0 rfl ?_
        refine go_iconst hC dX12_tell_42 k1_2 ?_
        refine go_icmp_ne hC dX12_tell_43 (tgt := 51) (by decide) (fun c_31 => ?_) (fun c_31 => ?_)
        · replace hf := if_f c_31 hf
          refine go_aload_n hC dX12_tell_51 rfl 1 rfl ?_
          refine go_getr hC (j := 27) (idx := 59) (nm := "wayMany") (ds := "[I") (b_43 _) rfl rfl hn12 (Nat.le_of_ble_eq_true rfl) rfl rfl (List.mem_cons_of_mem _ (List.mem_append_left _ (List.mem_of_getElem? (i := 1) rfl))) (Or.inl rfl) dX12_tell_52 ?_
          refine go_iload_n hC dX12_tell_55 rfl 2 rfl ?_
          obtain ⟨g_21, hf⟩ := ga_e hf
          refine go_iald hC (b_60 _) g_21 dX12_tell_56 ?_
          obtain ⟨x3_22, ex3_22, hf⟩ := lt_e hf
          refine go_topi ex3_22 ?_
          refine go_istore_n hC dX12_tell_57 rfl (Nat.le_of_ble_eq_true rfl) rfl ?_
          refine go_iload_n hC dX12_tell_58 rfl 1 rfl ?_
          refine go_if_ne hC dX12_tell_59 (tgt := 66) (by decide) (fun c_24 => ?_) (fun c_24 => ?_)
          · replace hf := if_f c_24 hf
            refine go_iload_n hC dX12_tell_66 rfl 1 rfl ?_
            refine go_iconst hC dX12_tell_67 k1_1 ?_
            refine go_icmp_ne hC dX12_tell_68 (tgt := 78) (by decide) (fun c_23 => ?_) (fun c_23 => ?_)
            · replace hf := if_f c_23 hf
              refine go_iconst hC dX12_tell_78 k1_2 ?_
              refine go_iload_n hC dX12_tell_79 rfl 0 rfl ?_
              refine go_imul hC dX12_tell_80 ?_
              refine go_bipush hC dX12_tell_81 k8_100 ?_
              refine go_iadd hC dX12_tell_83 ?_
              obtain ⟨rfl, rfl⟩ := so_2 hf
              exact hret _ _ rfl dX12_tell_84
            · replace hf := if_t c_23 hf
              refine go_iload_n hC dX12_tell_71 rfl 0 rfl ?_
              refine go_bipush hC dX12_tell_72 k8_100 ?_
              refine go_iadd hC dX12_tell_74 ?_
              refine go_goto hC dX12_tell_75 (tgt := 84) (by decide) ?_
              obtain ⟨rfl, rfl⟩ := so_2 hf
              exact hret _ _ rfl dX12_tell_84
          · replace hf := if_t c_24 hf
            refine go_iload_n hC dX12_tell_62 rfl 0 rfl ?_
            refine go_goto hC dX12_tell_63 (tgt := 84) (by decide) ?_
            obtain ⟨rfl, rfl⟩ := so_2 hf
            exact hret _ _ rfl dX12_tell_84
        · replace hf := if_t c_31 hf
          refine go_aload_n hC dX12_tell_46 rfl 1 rfl ?_
          refine go_iconst hC dX12_tell_47 k1_1 ?_
          obtain ⟨r_25, h_26, hc, hf⟩ := bd_e2 hf
          refine go_callV hC (c_X12_traced 1 h_20 h_26 hc) gX12_tell_X12_traced rfl ⟨rfl, rfl⟩ 1 e_X12_traced ⟨Nat.le_of_ble_eq_true rfl, Nat.le_of_ble_eq_true rfl⟩ (b_43 _) rfl rfl (st := []) (st1 := []) rfl rfl (Nat.le_of_ble_eq_true rfl) ⟨Nat.zero_le _, Nat.zero_le _⟩ dX12_tell_48 ?_
          refine go_aload_n hC dX12_tell_51 rfl 1 rfl ?_
          refine go_getr hC (j := 27) (idx := 59) (nm := "wayMany") (ds := "[I") (b_43 _) rfl rfl hn12 (Nat.le_of_ble_eq_true rfl) rfl rfl (List.mem_cons_of_mem _ (List.mem_append_left _ (List.mem_of_getElem? (i := 1) rfl))) (Or.inl rfl) dX12_tell_52 ?_
          refine go_iload_n hC dX12_tell_55 rfl 2 rfl ?_
          obtain ⟨g_27, hf⟩ := ga_e hf
          refine go_iald hC (b_60 _) g_27 dX12_tell_56 ?_
          obtain ⟨x3_28, ex3_28, hf⟩ := lt_e hf
          refine go_topi ex3_28 ?_
          refine go_istore_n hC dX12_tell_57 rfl (Nat.le_of_ble_eq_true rfl) rfl ?_
          refine go_iload_n hC dX12_tell_58 rfl 1 rfl ?_
          refine go_if_ne hC dX12_tell_59 (tgt := 66) (by decide) (fun c_30 => ?_) (fun c_30 => ?_)
          · replace hf := if_f c_30 hf
            refine go_iload_n hC dX12_tell_66 rfl 1 rfl ?_
            refine go_iconst hC dX12_tell_67 k1_1 ?_
            refine go_icmp_ne hC dX12_tell_68 (tgt := 78) (by decide) (fun c_29 => ?_) (fun c_29 => ?_)
            · replace hf := if_f c_29 hf
              refine go_iconst hC dX12_tell_78 k1_2 ?_
              refine go_iload_n hC dX12_tell_79 rfl 0 rfl ?_
              refine go_imul hC dX12_tell_80 ?_
              refine go_bipush hC dX12_tell_81 k8_100 ?_
              refine go_iadd hC dX12_tell_83 ?_
              obtain ⟨rfl, rfl⟩ := so_2 hf
              exact hret _ _ rfl dX12_tell_84
            · replace hf := if_t c_29 hf
              refine go_iload_n hC dX12_tell_71 rfl 0 rfl ?_
              refine go_bipush hC dX12_tell_72 k8_100 ?_
              refine go_iadd hC dX12_tell_74 ?_
              refine go_goto hC dX12_tell_75 (tgt := 84) (by decide) ?_
              obtain ⟨rfl, rfl⟩ := so_2 hf
              exact hret _ _ rfl dX12_tell_84
          · replace hf := if_t c_30 hf
            refine go_iload_n hC dX12_tell_62 rfl 0 rfl ?_
            refine go_goto hC dX12_tell_63 (tgt := 84) (by decide) ?_
            obtain ⟨rfl, rfl⟩ := so_2 hf
            exact hret _ _ rfl dX12_tell_84
    · replace hf := if_t c_64 hf
      refine go_aload_n hC dX12_tell_22 rfl 1 rfl ?_
      refine go_iconst hC dX12_tell_23 k1_3 ?_
      obtain ⟨r_33, h_34, hc, hf⟩ := bd_e2 hf
      refine go_callV hC (c_X12_traced 3 h h_34 hc) gX12_tell_X12_traced rfl ⟨rfl, rfl⟩ 1 e_X12_traced ⟨Nat.le_of_ble_eq_true rfl, Nat.le_of_ble_eq_true rfl⟩ (b_43 _) rfl rfl (st := []) (st1 := []) rfl rfl (Nat.le_of_ble_eq_true rfl) ⟨Nat.zero_le _, Nat.zero_le _⟩ dX12_tell_24 ?_
      refine go_iload_n hC dX12_tell_27 rfl 0 rfl ?_
      refine go_if_le hC dX12_tell_28 (tgt := 36) (by decide) (fun c_63 => ?_) (fun c_63 => ?_)
      · replace hf := if_t c_63 hf
        refine go_aload_n hC dX12_tell_36 rfl 1 rfl ?_
        refine go_iconst hC dX12_tell_37 k1_1 ?_
        obtain ⟨r_35, h_36, hc, hf⟩ := bd_e2 hf
        refine go_callV hC (c_X12_traced 1 h_34 h_36 hc) gX12_tell_X12_traced rfl ⟨rfl, rfl⟩ 1 e_X12_traced ⟨Nat.le_of_ble_eq_true rfl, Nat.le_of_ble_eq_true rfl⟩ (b_43 _) rfl rfl (st := []) (st1 := []) rfl rfl (Nat.le_of_ble_eq_true rfl) ⟨Nat.zero_le _, Nat.zero_le _⟩ dX12_tell_38 ?_
        refine go_iload_n hC dX12_tell_41 rfl 0 rfl ?_
        refine go_iconst hC dX12_tell_42 k1_2 ?_
        refine go_icmp_ne hC dX12_tell_43 (tgt := 51) (by decide) (fun c_47 => ?_) (fun c_47 => ?_)
        · replace hf := if_f c_47 hf
          refine go_aload_n hC dX12_tell_51 rfl 1 rfl ?_
          refine go_getr hC (j := 27) (idx := 59) (nm := "wayMany") (ds := "[I") (b_43 _) rfl rfl hn12 (Nat.le_of_ble_eq_true rfl) rfl rfl (List.mem_cons_of_mem _ (List.mem_append_left _ (List.mem_of_getElem? (i := 1) rfl))) (Or.inl rfl) dX12_tell_52 ?_
          refine go_iload_n hC dX12_tell_55 rfl 2 rfl ?_
          obtain ⟨g_37, hf⟩ := ga_e hf
          refine go_iald hC (b_60 _) g_37 dX12_tell_56 ?_
          obtain ⟨x3_38, ex3_38, hf⟩ := lt_e hf
          refine go_topi ex3_38 ?_
          refine go_istore_n hC dX12_tell_57 rfl (Nat.le_of_ble_eq_true rfl) rfl ?_
          refine go_iload_n hC dX12_tell_58 rfl 1 rfl ?_
          refine go_if_ne hC dX12_tell_59 (tgt := 66) (by decide) (fun c_40 => ?_) (fun c_40 => ?_)
          · replace hf := if_f c_40 hf
            refine go_iload_n hC dX12_tell_66 rfl 1 rfl ?_
            refine go_iconst hC dX12_tell_67 k1_1 ?_
            refine go_icmp_ne hC dX12_tell_68 (tgt := 78) (by decide) (fun c_39 => ?_) (fun c_39 => ?_)
            · replace hf := if_f c_39 hf
              refine go_iconst hC dX12_tell_78 k1_2 ?_
              refine go_iload_n hC dX12_tell_79 rfl 0 rfl ?_
              refine go_imul hC dX12_tell_80 ?_
              refine go_bipush hC dX12_tell_81 k8_100 ?_
              refine go_iadd hC dX12_tell_83 ?_
              obtain ⟨rfl, rfl⟩ := so_2 hf
              exact hret _ _ rfl dX12_tell_84
            · replace hf := if_t c_39 hf
              refine go_iload_n hC dX12_tell_71 rfl 0 rfl ?_
              refine go_bipush hC dX12_tell_72 k8_100 ?_
              refine go_iadd hC dX12_tell_74 ?_
              refine go_goto hC dX12_tell_75 (tgt := 84) (by decide) ?_
              obtain ⟨rfl, rfl⟩ := so_2 hf
              exact hret _ _ rfl dX12_tell_84
          · replace hf := if_t c_40 hf
            refine go_iload_n hC dX12_tell_62 rfl 0 rfl ?_
            refine go_goto hC dX12_tell_63 (tgt := 84) (by decide) ?_
            obtain ⟨rfl, rfl⟩ := so_2 hf
            exact hret _ _ rfl dX12_tell_84
        · replace hf := if_t c_47 hf
          refine go_aload_n hC dX12_tell_46 rfl 1 rfl ?_
          refine go_iconst hC dX12_tell_47 k1_1 ?_
          obtain ⟨r_41, h_42, hc, hf⟩ := bd_e2 hf
          refine go_callV hC (c_X12_traced 1 h_36 h_42 hc) gX12_tell_X12_traced rfl ⟨rfl, rfl⟩ 1 e_X12_traced ⟨Nat.le_of_ble_eq_true rfl, Nat.le_of_ble_eq_true rfl⟩ (b_43 _) rfl rfl (st := []) (st1 := []) rfl rfl (Nat.le_of_ble_eq_true rfl) ⟨Nat.zero_le _, Nat.zero_le _⟩ dX12_tell_48 ?_
          refine go_aload_n hC dX12_tell_51 rfl 1 rfl ?_
          refine go_getr hC (j := 27) (idx := 59) (nm := "wayMany") (ds := "[I") (b_43 _) rfl rfl hn12 (Nat.le_of_ble_eq_true rfl) rfl rfl (List.mem_cons_of_mem _ (List.mem_append_left _ (List.mem_of_getElem? (i := 1) rfl))) (Or.inl rfl) dX12_tell_52 ?_
          refine go_iload_n hC dX12_tell_55 rfl 2 rfl ?_
          obtain ⟨g_43, hf⟩ := ga_e hf
          refine go_iald hC (b_60 _) g_43 dX12_tell_56 ?_
          obtain ⟨x3_44, ex3_44, hf⟩ := lt_e hf
          refine go_topi ex3_44 ?_
          refine go_istore_n hC dX12_tell_57 rfl (Nat.le_of_ble_eq_true rfl) rfl ?_
          refine go_iload_n hC dX12_tell_58 rfl 1 rfl ?_
          refine go_if_ne hC dX12_tell_59 (tgt := 66) (by decide) (fun c_46 => ?_) (fun c_46 => ?_)
          · replace hf := if_f c_46 hf
            refine go_iload_n hC dX12_tell_66 rfl 1 rfl ?_
            refine go_iconst hC dX12_tell_67 k1_1 ?_
            refine go_icmp_ne hC dX12_tell_68 (tgt := 78) (by decide) (fun c_45 => ?_) (fun c_45 => ?_)
            · replace hf := if_f c_45 hf
              refine go_iconst hC dX12_tell_78 k1_2 ?_
              refine go_iload_n hC dX12_tell_79 rfl 0 rfl ?_
              refine go_imul hC dX12_tell_80 ?_
              refine go_bipush hC dX12_tell_81 k8_100 ?_
              refine go_iadd hC dX12_tell_83 ?_
              obtain ⟨rfl, rfl⟩ := so_2 hf
              exact hret _ _ rfl dX12_tell_84
            · replace hf := if_t c_45 hf
              refine go_iload_n hC dX12_tell_71 rfl 0 rfl ?_
              refine go_bipush hC dX12_tell_72 k8_100 ?_
              refine go_iadd hC dX12_tell_74 ?_
              refine go_goto hC dX12_tell_75 (tgt := 84) (by decide) ?_
              obtain ⟨rfl, rfl⟩ := so_2 hf
              exact hret _ _ rfl dX12_tell_84
          · replace hf := if_t c_46 hf
            refine go_iload_n hC dX12_tell_62 rfl 0 rfl ?_
            refine go_goto hC dX12_tell_63 (tgt := 84) (by decide) ?_
            obtain ⟨rfl, rfl⟩ := so_2 hf
            exact hret _ _ rfl dX12_tell_84
      · replace hf := if_f c_63 hf
        refine go_aload_n hC dX12_tell_31 rfl 1 rfl ?_
        refine go_iconst hC dX12_tell_32 k1_2 ?_
        obtain ⟨r_48, h_49, hc, hf⟩ := bd_e2 hf
        refine go_callV hC (c_X12_traced 2 h_34 h_49 hc) gX12_tell_X12_traced rfl ⟨rfl, rfl⟩ 1 e_X12_traced ⟨Nat.le_of_ble_eq_true rfl, Nat.le_of_ble_eq_true rfl⟩ (b_43 _) rfl rfl (st := []) (st1 := []) rfl rfl (Nat.le_of_ble_eq_true rfl) ⟨Nat.zero_le _, Nat.zero_le _⟩ dX12_tell_33 ?_
        refine go_aload_n hC dX12_tell_36 rfl 1 rfl ?_
        refine go_iconst hC dX12_tell_37 k1_1 ?_
        obtain ⟨r_50, h_51, hc, hf⟩ := bd_e2 hf
        refine go_callV hC (c_X12_traced 1 h_49 h_51 hc) gX12_tell_X12_traced rfl ⟨rfl, rfl⟩ 1 e_X12_traced ⟨Nat.le_of_ble_eq_true rfl, Nat.le_of_ble_eq_true rfl⟩ (b_43 _) rfl rfl (st := []) (st1 := []) rfl rfl (Nat.le_of_ble_eq_true rfl) ⟨Nat.zero_le _, Nat.zero_le _⟩ dX12_tell_38 ?_
        refine go_iload_n hC dX12_tell_41 rfl 0 rfl ?_
        refine go_iconst hC dX12_tell_42 k1_2 ?_
        refine go_icmp_ne hC dX12_tell_43 (tgt := 51) (by decide) (fun c_62 => ?_) (fun c_62 => ?_)
        · replace hf := if_f c_62 hf
          refine go_aload_n hC dX12_tell_51 rfl 1 rfl ?_
          refine go_getr hC (j := 27) (idx := 59) (nm := "wayMany") (ds := "[I") (b_43 _) rfl rfl hn12 (Nat.le_of_ble_eq_true rfl) rfl rfl (List.mem_cons_of_mem _ (List.mem_append_left _ (List.mem_of_getElem? (i := 1) rfl))) (Or.inl rfl) dX12_tell_52 ?_
          refine go_iload_n hC dX12_tell_55 rfl 2 rfl ?_
          obtain ⟨g_52, hf⟩ := ga_e hf
          refine go_iald hC (b_60 _) g_52 dX12_tell_56 ?_
          obtain ⟨x3_53, ex3_53, hf⟩ := lt_e hf
          refine go_topi ex3_53 ?_
          refine go_istore_n hC dX12_tell_57 rfl (Nat.le_of_ble_eq_true rfl) rfl ?_
          refine go_iload_n hC dX12_tell_58 rfl 1 rfl ?_
          refine go_if_ne hC dX12_tell_59 (tgt := 66) (by decide) (fun c_55 => ?_) (fun c_55 => ?_)
          · replace hf := if_f c_55 hf
            refine go_iload_n hC dX12_tell_66 rfl 1 rfl ?_
            refine go_iconst hC dX12_tell_67 k1_1 ?_
            refine go_icmp_ne hC dX12_tell_68 (tgt := 78) (by decide) (fun c_54 => ?_) (fun c_54 => ?_)
            · replace hf := if_f c_54 hf
              refine go_iconst hC dX12_tell_78 k1_2 ?_
              refine go_iload_n hC dX12_tell_79 rfl 0 rfl ?_
              refine go_imul hC dX12_tell_80 ?_
              refine go_bipush hC dX12_tell_81 k8_100 ?_
              refine go_iadd hC dX12_tell_83 ?_
              obtain ⟨rfl, rfl⟩ := so_2 hf
              exact hret _ _ rfl dX12_tell_84
            · replace hf := if_t c_54 hf
              refine go_iload_n hC dX12_tell_71 rfl 0 rfl ?_
              refine go_bipush hC dX12_tell_72 k8_100 ?_
              refine go_iadd hC dX12_tell_74 ?_
              refine go_goto hC dX12_tell_75 (tgt := 84) (by decide) ?_
              obtain ⟨rfl, rfl⟩ := so_2 hf
              exact hret _ _ rfl dX12_tell_84
          · replace hf := if_t c_55 hf
            refine go_iload_n hC dX12_tell_62 rfl 0 rfl ?_
            refine go_goto hC dX12_tell_63 (tgt := 84) (by decide) ?_
            obtain ⟨rfl, rfl⟩ := so_2 hf
            exact hret _ _ rfl dX12_tell_84
        · replace hf := if_t c_62 hf
          refine go_aload_n hC dX12_tell_46 rfl 1 rfl ?_
          refine go_iconst hC dX12_tell_47 k1_1 ?_
          obtain ⟨r_56, h_57, hc, hf⟩ := bd_e2 hf
          refine go_callV hC (c_X12_traced 1 h_51 h_57 hc) gX12_tell_X12_traced rfl ⟨rfl, rfl⟩ 1 e_X12_traced ⟨Nat.le_of_ble_eq_true rfl, Nat.le_of_ble_eq_true rfl⟩ (b_43 _) rfl rfl (st := []) (st1 := []) rfl rfl (Nat.le_of_ble_eq_true rfl) ⟨Nat.zero_le _, Nat.zero_le _⟩ dX12_tell_48 ?_
          refine go_aload_n hC dX12_tell_51 rfl 1 rfl ?_
          refine go_getr hC (j := 27) (idx := 59) (nm := "wayMany") (ds := "[I") (b_43 _) rfl rfl hn12 (Nat.le_of_ble_eq_true rfl) rfl rfl (List.mem_cons_of_mem _ (List.mem_append_left _ (List.mem_of_getElem? (i := 1) rfl))) (Or.inl rfl) dX12_tell_52 ?_
          refine go_iload_n hC dX12_tell_55 rfl 2 rfl ?_
          obtain ⟨g_58, hf⟩ := ga_e hf
          refine go_iald hC (b_60 _) g_58 dX12_tell_56 ?_
          obtain ⟨x3_59, ex3_59, hf⟩ := lt_e hf
          refine go_topi ex3_59 ?_
          refine go_istore_n hC dX12_tell_57 rfl (Nat.le_of_ble_eq_true rfl) rfl ?_
          refine go_iload_n hC dX12_tell_58 rfl 1 rfl ?_
          refine go_if_ne hC dX12_tell_59 (tgt := 66) (by decide) (fun c_61 => ?_) (fun c_61 => ?_)
          · replace hf := if_f c_61 hf
            refine go_iload_n hC dX12_tell_66 rfl 1 rfl ?_
            refine go_iconst hC dX12_tell_67 k1_1 ?_
            refine go_icmp_ne hC dX12_tell_68 (tgt := 78) (by decide) (fun c_60 => ?_) (fun c_60 => ?_)
            · replace hf := if_f c_60 hf
              refine go_iconst hC dX12_tell_78 k1_2 ?_
              refine go_iload_n hC dX12_tell_79 rfl 0 rfl ?_
              refine go_imul hC dX12_tell_80 ?_
              refine go_bipush hC dX12_tell_81 k8_100 ?_
              refine go_iadd hC dX12_tell_83 ?_
              obtain ⟨rfl, rfl⟩ := so_2 hf
              exact hret _ _ rfl dX12_tell_84
            · replace hf := if_t c_60 hf
              refine go_iload_n hC dX12_tell_71 rfl 0 rfl ?_
              refine go_bipush hC dX12_tell_72 k8_100 ?_
              refine go_iadd hC dX12_tell_74 ?_
              refine go_goto hC dX12_tell_75 (tgt := 84) (by decide) ?_
              obtain ⟨rfl, rfl⟩ := so_2 hf
              exact hret _ _ rfl dX12_tell_84
          · replace hf := if_t c_61 hf
            refine go_iload_n hC dX12_tell_62 rfl 0 rfl ?_
            refine go_goto hC dX12_tell_63 (tgt := 84) (by decide) ?_
            obtain ⟨rfl, rfl⟩ := so_2 hf
            exact hret _ _ rfl dX12_tell_84
  · replace hf := if_f c_65 hf
    refine go_iconst hC dX12_tell_8 k1_m1 ?_
    obtain ⟨rfl, rfl⟩ := so_2 hf
    exact hret _ _ rfl dX12_tell_9
def f_X12_label (x1 : Int32) (h : PH) : Option (Int32 × PH) :=
  bd_1 (f_X12_noWay x1 h) fun r_1 =>
  if r_1 = 0 then (
  ga_i x1 6 (
  if (h.1 58 x1.toNatClampNeg) = 2 then (
  bd_2 (f_X12_traced 5 h) fun r_7 h_8 =>
  ga_i x1 6 (
  if (h_8.1 58 x1.toNatClampNeg) = 2 then (
  some (70, h_8))
  else (
  some (x1, h_8))))
  else (
  bd_2 (f_X12_traced 4 h) fun r_3 h_4 =>
  ga_i x1 6 (
  if (h_4.1 58 x1.toNatClampNeg) = 2 then (
  some (70, h_4))
  else (
  some (x1, h_4))))))
  else (
  some ((-1), h))
theorem e_X12_label : yX12_label.cls = RX12 ∧ yX12_label.cls ≠ "java/lang/invoke/MethodHandle" ∧ yX12_label.cls ≠ "java/lang/invoke/VarHandle" ∧ (parseMethodDescriptor yX12_label.desc).map (fun d => d.parameters.length) = some 1 := by decide +kernel
set_option maxRecDepth 100000 in
set_option maxHeartbeats 4000000 in
theorem c_X12_label (x1 : Int32) (h : PH) (h2 : PH) (r : Int32) (hf : f_X12_label x1 h = some (r, h2)) : Con yX12_label wsX12_label (rm_d 2) l0_B [.ref 43, .int x1] h (some (.int r)) h2 := by
  have hn12 : ∀ w ∈ wsX120, w ∈ wsX12_label := (fun _ hw => (List.mem_cons_of_mem _ (List.mem_append_right _ hw)))
  refine con_i (ty := .int) (cc := cX12_label) (nL := 2) (by decide) rfl (Nat.le_of_ble_eq_true rfl) ?_
  intro C hC hret
  change Go l0_B C 0 0 0 [(0, .ref 43), (1, .int x1)] [] h
  unfold f_X12_label at hf
  refine go_aload_n hC dX12_label_0 rfl 0 rfl ?_
  refine go_iload_n hC dX12_label_1 rfl 1 rfl ?_
  obtain ⟨r_1, hc, hf⟩ := bd_e1 hf
  refine go_callV hC (c_X12_noWay x1 h r_1 hc) gX12_label_X12_noWay rfl ⟨rfl, rfl⟩ 1 e_X12_noWay ⟨Nat.le_of_ble_eq_true rfl, Nat.le_of_ble_eq_true rfl⟩ (b_43 _) rfl rfl (st := []) (st1 := [.int r_1]) rfl rfl (Nat.le_of_ble_eq_true rfl) ⟨Nat.zero_le _, Nat.zero_le _⟩ dX12_label_2 ?_
  refine go_if_eq hC dX12_label_5 (tgt := 10) (by decide) (fun c_12 => ?_) (fun c_12 => ?_)
  · replace hf := if_t c_12 hf
    refine go_aload_n hC dX12_label_10 rfl 0 rfl ?_
    refine go_aload_n hC dX12_label_11 rfl 0 rfl ?_
    refine go_getr hC (j := 25) (idx := 53) (nm := "wayKind") (ds := "[I") (b_43 _) rfl rfl hn12 (Nat.le_of_ble_eq_true rfl) rfl rfl (List.mem_cons_of_mem _ (List.mem_append_left _ (List.mem_of_getElem? (i := 0) rfl))) (Or.inl rfl) dX12_label_12 ?_
    refine go_iload_n hC dX12_label_15 rfl 1 rfl ?_
    obtain ⟨g_2, hf⟩ := ga_e hf
    refine go_iald hC (b_58 _) g_2 dX12_label_16 ?_
    refine go_iconst hC dX12_label_17 k1_2 ?_
    refine go_icmp_ne hC dX12_label_18 (tgt := 25) (by decide) (fun c_11 => ?_) (fun c_11 => ?_)
    · replace hf := if_f c_11 hf
      refine go_iconst hC dX12_label_25 k1_4 ?_
      obtain ⟨r_3, h_4, hc, hf⟩ := bd_e2 hf
      refine go_callV hC (c_X12_traced 4 h h_4 hc) gX12_label_X12_traced rfl ⟨rfl, rfl⟩ 1 e_X12_traced ⟨Nat.le_of_ble_eq_true rfl, Nat.le_of_ble_eq_true rfl⟩ (b_43 _) rfl rfl (st := []) (st1 := []) rfl rfl (Nat.le_of_ble_eq_true rfl) ⟨Nat.zero_le _, Nat.zero_le _⟩ dX12_label_26 ?_
      refine go_aload_n hC dX12_label_29 rfl 0 rfl ?_
      refine go_getr hC (j := 25) (idx := 53) (nm := "wayKind") (ds := "[I") (b_43 _) rfl rfl hn12 (Nat.le_of_ble_eq_true rfl) rfl rfl (List.mem_cons_of_mem _ (List.mem_append_left _ (List.mem_of_getElem? (i := 0) rfl))) (Or.inl rfl) dX12_label_30 ?_
      refine go_iload_n hC dX12_label_33 rfl 1 rfl ?_
      obtain ⟨g_5, hf⟩ := ga_e hf
      refine go_iald hC (b_58 _) g_5 dX12_label_34 ?_
      refine go_iconst hC dX12_label_35 k1_2 ?_
      refine go_icmp_ne hC dX12_label_36 (tgt := 44) (by decide) (fun c_6 => ?_) (fun c_6 => ?_)
      · replace hf := if_f c_6 hf
        refine go_iload_n hC dX12_label_44 rfl 1 rfl ?_
        obtain ⟨rfl, rfl⟩ := so_2 hf
        exact hret _ _ rfl dX12_label_45
      · replace hf := if_t c_6 hf
        refine go_bipush hC dX12_label_39 k8_70 ?_
        refine go_goto hC dX12_label_41 (tgt := 45) (by decide) ?_
        obtain ⟨rfl, rfl⟩ := so_2 hf
        exact hret _ _ rfl dX12_label_45
    · replace hf := if_t c_11 hf
      refine go_iconst hC dX12_label_21 k1_5 ?_
      refine go_goto hC dX12_label_22 (tgt := 26) (by decide) ?_
      obtain ⟨r_7, h_8, hc, hf⟩ := bd_e2 hf
      refine go_callV hC (c_X12_traced 5 h h_8 hc) gX12_label_X12_traced rfl ⟨rfl, rfl⟩ 1 e_X12_traced ⟨Nat.le_of_ble_eq_true rfl, Nat.le_of_ble_eq_true rfl⟩ (b_43 _) rfl rfl (st := []) (st1 := []) rfl rfl (Nat.le_of_ble_eq_true rfl) ⟨Nat.zero_le _, Nat.zero_le _⟩ dX12_label_26 ?_
      refine go_aload_n hC dX12_label_29 rfl 0 rfl ?_
      refine go_getr hC (j := 25) (idx := 53) (nm := "wayKind") (ds := "[I") (b_43 _) rfl rfl hn12 (Nat.le_of_ble_eq_true rfl) rfl rfl (List.mem_cons_of_mem _ (List.mem_append_left _ (List.mem_of_getElem? (i := 0) rfl))) (Or.inl rfl) dX12_label_30 ?_
      refine go_iload_n hC dX12_label_33 rfl 1 rfl ?_
      obtain ⟨g_9, hf⟩ := ga_e hf
      refine go_iald hC (b_58 _) g_9 dX12_label_34 ?_
      refine go_iconst hC dX12_label_35 k1_2 ?_
      refine go_icmp_ne hC dX12_label_36 (tgt := 44) (by decide) (fun c_10 => ?_) (fun c_10 => ?_)
      · replace hf := if_f c_10 hf
        refine go_iload_n hC dX12_label_44 rfl 1 rfl ?_
        obtain ⟨rfl, rfl⟩ := so_2 hf
        exact hret _ _ rfl dX12_label_45
      · replace hf := if_t c_10 hf
        refine go_bipush hC dX12_label_39 k8_70 ?_
        refine go_goto hC dX12_label_41 (tgt := 45) (by decide) ?_
        obtain ⟨rfl, rfl⟩ := so_2 hf
        exact hret _ _ rfl dX12_label_45
  · replace hf := if_f c_12 hf
    refine go_iconst hC dX12_label_8 k1_m1 ?_
    obtain ⟨rfl, rfl⟩ := so_2 hf
    exact hret _ _ rfl dX12_label_9
def f_X12_as (x1 : Int32) (x2 : Int32) (h : PH) : Option (Int32 × PH) :=
  bd_1 (f_X12_noWay x1 h) fun r_1 =>
  if r_1 = 0 then (
  bd_1 (f_X12_in x2.toInt64 0 2 h) fun r_2 =>
  if r_2 = 0 then (
  bd_2 (f_X12_refused (-2) h) fun r_9 h_10 =>
  some (r_9, h_10))
  else (
  ga_i x1 6 (
  if (h.1 58 x1.toNatClampNeg) < x2 then (
  bd_2 (f_X12_failed 2 h) fun r_4 h_5 =>
  some (r_4, h_5))
  else (
  bd_2 (f_X12_refused 1 h) fun r_6 h_7 =>
  some (r_6, h_7)))))
  else (
  bd_2 (f_X12_refused (-1) h) fun r_12 h_13 =>
  some (r_12, h_13))
theorem e_X12_as : yX12_as.cls = RX12 ∧ yX12_as.cls ≠ "java/lang/invoke/MethodHandle" ∧ yX12_as.cls ≠ "java/lang/invoke/VarHandle" ∧ (parseMethodDescriptor yX12_as.desc).map (fun d => d.parameters.length) = some 2 := by decide +kernel
set_option maxRecDepth 100000 in
set_option maxHeartbeats 4000000 in
theorem c_X12_as (x1 : Int32) (x2 : Int32) (h : PH) (h2 : PH) (r : Int32) (hf : f_X12_as x1 x2 h = some (r, h2)) : Con yX12_as wsX12_as (rm_d 2) l0_B [.ref 43, .int x1, .int x2] h (some (.int r)) h2 := by
  have hn12 : ∀ w ∈ wsX120, w ∈ wsX12_as := (fun _ hw => (List.mem_cons_of_mem _ (List.mem_append_right _ hw)))
  refine con_i (ty := .int) (cc := cX12_as) (nL := 3) (by decide) rfl (Nat.le_of_ble_eq_true rfl) ?_
  intro C hC hret
  change Go l0_B C 0 0 0 [(0, .ref 43), (1, .int x1), (2, .int x2)] [] h
  unfold f_X12_as at hf
  refine go_aload_n hC dX12_as_0 rfl 0 rfl ?_
  refine go_iload_n hC dX12_as_1 rfl 1 rfl ?_
  obtain ⟨r_1, hc, hf⟩ := bd_e1 hf
  refine go_callV hC (c_X12_noWay x1 h r_1 hc) gX12_as_X12_noWay rfl ⟨rfl, rfl⟩ 1 e_X12_noWay ⟨Nat.le_of_ble_eq_true rfl, Nat.le_of_ble_eq_true rfl⟩ (b_43 _) rfl rfl (st := []) (st1 := [.int r_1]) rfl rfl (Nat.le_of_ble_eq_true rfl) ⟨Nat.zero_le _, Nat.zero_le _⟩ dX12_as_2 ?_
  refine go_if_eq hC dX12_as_5 (tgt := 14) (by decide) (fun c_14 => ?_) (fun c_14 => ?_)
  · replace hf := if_t c_14 hf
    refine go_iload_n hC dX12_as_14 rfl 2 rfl ?_
    refine go_i2l hC dX12_as_15 ?_
    refine go_lconst hC dX12_as_16 (v := 0) rfl ?_
    refine go_ldc2 hC (v := 2) (List.mem_cons_of_mem _ (List.mem_append_left _ (List.mem_of_getElem? (i := 0) rfl))) dX12_as_17 ?_
    obtain ⟨r_2, hc, hf⟩ := bd_e1 hf
    refine go_callS hC (c_X12_in x2.toInt64 0 2 h r_2 hc) gX12_as_X12_in rfl ⟨rfl, rfl⟩ 3 e_X12_in ⟨Nat.le_of_ble_eq_true rfl, Nat.le_of_ble_eq_true rfl⟩ rfl (st := []) (st1 := [.int r_2]) rfl rfl (Nat.le_of_ble_eq_true rfl) ⟨Nat.zero_le _, Nat.zero_le _⟩ dX12_as_20 ?_
    refine go_if_ne hC dX12_as_23 (tgt := 33) (by decide) (fun c_11 => ?_) (fun c_11 => ?_)
    · replace hf := if_f c_11 hf
      refine go_aload_n hC dX12_as_33 rfl 0 rfl ?_
      refine go_getr hC (j := 25) (idx := 53) (nm := "wayKind") (ds := "[I") (b_43 _) rfl rfl hn12 (Nat.le_of_ble_eq_true rfl) rfl rfl (List.mem_cons_of_mem _ (List.mem_append_left _ (List.mem_of_getElem? (i := 1) rfl))) (Or.inl rfl) dX12_as_34 ?_
      refine go_iload_n hC dX12_as_37 rfl 1 rfl ?_
      obtain ⟨g_3, hf⟩ := ga_e hf
      refine go_iald hC (b_58 _) g_3 dX12_as_38 ?_
      refine go_iload_n hC dX12_as_39 rfl 2 rfl ?_
      refine go_icmp_lt hC dX12_as_40 (tgt := 51) (by decide) (fun c_8 => ?_) (fun c_8 => ?_)
      · replace hf := if_t c_8 hf
        refine go_aload_n hC dX12_as_51 rfl 0 rfl ?_
        refine go_iconst hC dX12_as_52 k1_2 ?_
        obtain ⟨r_4, h_5, hc, hf⟩ := bd_e2 hf
        refine go_callV hC (c_X12_failed 2 h h_5 r_4 hc) gX12_as_X12_failed rfl ⟨rfl, rfl⟩ 1 e_X12_failed ⟨Nat.le_of_ble_eq_true rfl, Nat.le_of_ble_eq_true rfl⟩ (b_43 _) rfl rfl (st := []) (st1 := [.int r_4]) rfl rfl (Nat.le_of_ble_eq_true rfl) ⟨Nat.zero_le _, Nat.zero_le _⟩ dX12_as_53 ?_
        obtain ⟨rfl, rfl⟩ := so_2 hf
        exact hret _ _ rfl dX12_as_56
      · replace hf := if_f c_8 hf
        refine go_aload_n hC dX12_as_43 rfl 0 rfl ?_
        refine go_iconst hC dX12_as_44 k1_1 ?_
        obtain ⟨r_6, h_7, hc, hf⟩ := bd_e2 hf
        refine go_callV hC (c_X12_refused 1 h h_7 r_6 hc) gX12_as_X12_refused rfl ⟨rfl, rfl⟩ 1 e_X12_refused ⟨Nat.le_of_ble_eq_true rfl, Nat.le_of_ble_eq_true rfl⟩ (b_43 _) rfl rfl (st := []) (st1 := [.int r_6]) rfl rfl (Nat.le_of_ble_eq_true rfl) ⟨Nat.zero_le _, Nat.zero_le _⟩ dX12_as_45 ?_
        refine go_goto hC dX12_as_48 (tgt := 56) (by decide) ?_
        obtain ⟨rfl, rfl⟩ := so_2 hf
        exact hret _ _ rfl dX12_as_56
    · replace hf := if_t c_11 hf
      refine go_aload_n hC dX12_as_26 rfl 0 rfl ?_
      refine go_bipush hC dX12_as_27 k8_m2 ?_
      obtain ⟨r_9, h_10, hc, hf⟩ := bd_e2 hf
      refine go_callV hC (c_X12_refused (-2) h h_10 r_9 hc) gX12_as_X12_refused rfl ⟨rfl, rfl⟩ 1 e_X12_refused ⟨Nat.le_of_ble_eq_true rfl, Nat.le_of_ble_eq_true rfl⟩ (b_43 _) rfl rfl (st := []) (st1 := [.int r_9]) rfl rfl (Nat.le_of_ble_eq_true rfl) ⟨Nat.zero_le _, Nat.zero_le _⟩ dX12_as_29 ?_
      obtain ⟨rfl, rfl⟩ := so_2 hf
      exact hret _ _ rfl dX12_as_32
  · replace hf := if_f c_14 hf
    refine go_aload_n hC dX12_as_8 rfl 0 rfl ?_
    refine go_iconst hC dX12_as_9 k1_m1 ?_
    obtain ⟨r_12, h_13, hc, hf⟩ := bd_e2 hf
    refine go_callV hC (c_X12_refused (-1) h h_13 r_12 hc) gX12_as_X12_refused rfl ⟨rfl, rfl⟩ 1 e_X12_refused ⟨Nat.le_of_ble_eq_true rfl, Nat.le_of_ble_eq_true rfl⟩ (b_43 _) rfl rfl (st := []) (st1 := [.int r_12]) rfl rfl (Nat.le_of_ble_eq_true rfl) ⟨Nat.zero_le _, Nat.zero_le _⟩ dX12_as_10 ?_
    obtain ⟨rfl, rfl⟩ := so_2 hf
    exact hret _ _ rfl dX12_as_13
def f_X12_trace (h : PH) : Option (Int32) :=
  some (h.1 43 44)
theorem e_X12_trace : yX12_trace.cls = RX12 ∧ yX12_trace.cls ≠ "java/lang/invoke/MethodHandle" ∧ yX12_trace.cls ≠ "java/lang/invoke/VarHandle" ∧ (parseMethodDescriptor yX12_trace.desc).map (fun d => d.parameters.length) = some 0 := by decide +kernel
set_option maxRecDepth 100000 in
set_option maxHeartbeats 4000000 in
theorem c_X12_trace (h : PH) (r : Int32) (hf : f_X12_trace h = some r) : Con yX12_trace wsX12_trace (rm_d 0) l0_B [.ref 43] h (some (.int r)) h := by
  have hn12 : ∀ w ∈ wsX120, w ∈ wsX12_trace := (fun _ hw => (List.mem_cons_of_mem _ (List.mem_append_right _ hw)))
  refine con_i (ty := .int) (cc := cX12_trace) (nL := 1) (by decide) rfl (Nat.le_of_ble_eq_true rfl) ?_
  intro C hC hret
  change Go l0_B C 0 0 0 [(0, .ref 43)] [] h
  unfold f_X12_trace at hf
  refine go_aload_n hC dX12_trace_0 rfl 0 rfl ?_
  refine go_geti hC (j := 44) (idx := 343) (nm := "traceNow") (ds := "I") (b_43 _) rfl rfl hn12 (Nat.le_of_ble_eq_true rfl) rfl rfl (List.mem_cons_of_mem _ (List.mem_append_left _ (List.mem_of_getElem? (i := 0) rfl))) (Or.inl rfl) dX12_trace_1 ?_
  obtain rfl := so_1 hf
  exact hret _ _ rfl dX12_trace_4
def f_X12_fault (h : PH) : Option (Int32) :=
  some (h.1 43 0)
theorem e_X12_fault : yX12_fault.cls = RX12 ∧ yX12_fault.cls ≠ "java/lang/invoke/MethodHandle" ∧ yX12_fault.cls ≠ "java/lang/invoke/VarHandle" ∧ (parseMethodDescriptor yX12_fault.desc).map (fun d => d.parameters.length) = some 0 := by decide +kernel
set_option maxRecDepth 100000 in
set_option maxHeartbeats 4000000 in
theorem c_X12_fault (h : PH) (r : Int32) (hf : f_X12_fault h = some r) : Con yX12_fault wsX12_fault (rm_d 0) l0_B [.ref 43] h (some (.int r)) h := by
  have hn12 : ∀ w ∈ wsX120, w ∈ wsX12_fault := (fun _ hw => (List.mem_cons_of_mem _ (List.mem_append_right _ hw)))
  refine con_i (ty := .int) (cc := cX12_fault) (nL := 1) (by decide) rfl (Nat.le_of_ble_eq_true rfl) ?_
  intro C hC hret
  change Go l0_B C 0 0 0 [(0, .ref 43)] [] h
  unfold f_X12_fault at hf
  refine go_aload_n hC dX12_fault_0 rfl 0 rfl ?_
  refine go_geti hC (j := 0) (idx := 95) (nm := "fault") (ds := "I") (b_43 _) rfl rfl hn12 (Nat.le_of_ble_eq_true rfl) rfl rfl (List.mem_cons_of_mem _ (List.mem_append_left _ (List.mem_of_getElem? (i := 0) rfl))) (Or.inl rfl) dX12_fault_1 ?_
  obtain rfl := so_1 hf
  exact hret _ _ rfl dX12_fault_4
def lb_X12_many_7 (x1 : Int32) (x3 : Int32) (h : PH) (x2 : Int32) (x4 : Int32) : Option ((Int32 × Int32) ⊕ (Int32 × Int32)) :=
  if (h.1 43 3) ≤ x4 then (
  some (.inr (x2, x4)))
  else (
  ga_i x4 14 (
  if (h.1 48 x4.toNatClampNeg) = 0 then (
  lt_b (x2 + 0) fun x2_9 =>
  lt_b (x4 + 1) fun x4_10 =>
  some (.inl (x2_9, x4_10)))
  else (
  lt_b (x2 + 1) fun x2_11 =>
  lt_b (x4 + 1) fun x4_12 =>
  some (.inl (x2_11, x4_12)))))
def lb_X12_many_43 (x1 : Int32) (x2 : Int32) (h : PH) (x3 : Int32) (x4 : Int32) : Option ((Int32 × Int32) ⊕ (Int32 × Int32)) :=
  if (h.1 43 23) ≤ x4 then (
  some (.inr (x3, x4)))
  else (
  ga_i x4 6 (
  if (h.1 57 x4.toNatClampNeg) = 0 then (
  lt_b (x3 + 0) fun x3_24 =>
  lt_b (x4 + 1) fun x4_25 =>
  some (.inl (x3_24, x4_25)))
  else (
  lt_b (x3 + 1) fun x3_26 =>
  lt_b (x4 + 1) fun x4_27 =>
  some (.inl (x3_26, x4_27)))))
def f_X12_many (x1 : Int32) (h : PH) : Option (Int32) :=
  bd_1 (lp_f (fun s => lb_X12_many_7 x1 0 h s.1 s.2) fu_l (0, 0)) fun s_15 =>
  bd_1 (lp_f (fun s => lb_X12_many_43 x1 s_15.1 h s.1 s.2) fu_l (0, 0)) fun s_30 =>
  if x1 = 0 then (
  some (h.1 43 1))
  else (
  if x1 = 1 then (
  some (h.1 43 3))
  else (
  if x1 = 2 then (
  some s_15.1)
  else (
  if x1 = 3 then (
  some (h.1 43 19))
  else (
  if x1 = 4 then (
  some s_30.1)
  else (
  if x1 = 5 then (
  some (h.1 43 37))
  else (
  some (-2)))))))
set_option maxRecDepth 100000 in
set_option maxHeartbeats 4000000 in
theorem lw_X12_many_7 {C : GC} (hC : Cx C cX12_many 5 wsX12_many RX12 (some .int) (rm_d 0)) (x1 : Int32) (x3 : Int32) (h : PH) : ∀ (n9 : Nat) (x2 : Int32) (x4 : Int32) (y : Int32 × Int32), lp_f (fun s => lb_X12_many_7 x1 x3 h s.1 s.2) n9 (x2, x4) = some y → ∀ (hk : Go l0_B C 0 0 40 [(0, .ref 43), (1, .int x1), (2, .int y.1), (3, .int x3)] [] h), Go l0_B C 0 0 7 [(0, .ref 43), (1, .int x1), (2, .int x2), (3, .int x3), (4, .int x4)] [] h := by
  have hn12 : ∀ w ∈ wsX120, w ∈ wsX12_many := (fun _ hw => (List.mem_cons_of_mem _ (List.mem_append_right _ hw)))
  intro n9
  induction n9 with
  | zero =>
    intro x2 x4 y hlp
    cases hlp
  | succ n9 ih =>
    intro x2 x4 y hlp hk
    obtain ⟨k9, z, hk9, hf, hy⟩ := lp_e hlp
    cases hk9
    replace hf : lb_X12_many_7 x1 x3 h x2 x4 = some z := hf
    unfold lb_X12_many_7 at hf
    refine go_iload hC dX12_many_7 4 rfl ?_
    refine go_aload_n hC dX12_many_9 rfl 0 rfl ?_
    refine go_geti hC (j := 3) (idx := 120) (nm := "runs") (ds := "I") (b_43 _) rfl rfl hn12 (Nat.le_of_ble_eq_true rfl) rfl rfl (List.mem_cons_of_mem _ (List.mem_append_left _ (List.mem_of_getElem? (i := 0) rfl))) (Or.inl rfl) dX12_many_10 ?_
    refine go_icmp_ge hC dX12_many_13 (tgt := 40) (by decide) (fun c_14 => ?_) (fun c_14 => ?_)
    · replace hf := if_t c_14 hf
      obtain rfl := so_1 hf
      obtain rfl := lp_x hy
      refine go_sub [0, 1, 2, 3] rfl ?_
      exact hk
    · replace hf := if_f c_14 hf
      refine go_iload_n hC dX12_many_16 rfl 2 rfl ?_
      refine go_aload_n hC dX12_many_17 rfl 0 rfl ?_
      refine go_getr hC (j := 8) (idx := 22) (nm := "isShut") (ds := "[Z") (b_43 _) rfl rfl hn12 (Nat.le_of_ble_eq_true rfl) rfl rfl (List.mem_cons_of_mem _ (List.mem_append_left _ (List.mem_of_getElem? (i := 1) rfl))) (Or.inl rfl) dX12_many_18 ?_
      refine go_iload hC dX12_many_21 4 rfl ?_
      obtain ⟨g_8, hf⟩ := ga_e hf
      refine go_zald hC (b_48 _) g_8 dX12_many_23 ?_
      refine go_if_eq hC dX12_many_24 (tgt := 31) (by decide) (fun c_13 => ?_) (fun c_13 => ?_)
      · replace hf := if_t c_13 hf
        refine go_iconst hC dX12_many_31 k1_0 ?_
        refine go_iadd hC dX12_many_32 ?_
        obtain ⟨x2_9, ex2_9, hf⟩ := lt_e hf
        refine go_topi ex2_9 ?_
        refine go_istore_n hC dX12_many_33 rfl (Nat.le_of_ble_eq_true rfl) rfl ?_
        obtain ⟨x4_10, ex4_10, hf⟩ := lt_e hf
        refine go_iinc hC dX12_many_34 4 rfl k1_1 ex4_10 (Nat.le_of_ble_eq_true rfl) rfl ?_
        refine go_goto hC dX12_many_37 (tgt := 7) (by decide) ?_
        obtain rfl := so_1 hf
        refine go_sub [2, 3, 1, 4, 0] rfl ?_
        exact ih x2_9 x4_10 _ (lp_c hy) hk
      · replace hf := if_f c_13 hf
        refine go_iconst hC dX12_many_27 k1_1 ?_
        refine go_goto hC dX12_many_28 (tgt := 32) (by decide) ?_
        refine go_iadd hC dX12_many_32 ?_
        obtain ⟨x2_11, ex2_11, hf⟩ := lt_e hf
        refine go_topi ex2_11 ?_
        refine go_istore_n hC dX12_many_33 rfl (Nat.le_of_ble_eq_true rfl) rfl ?_
        obtain ⟨x4_12, ex4_12, hf⟩ := lt_e hf
        refine go_iinc hC dX12_many_34 4 rfl k1_1 ex4_12 (Nat.le_of_ble_eq_true rfl) rfl ?_
        refine go_goto hC dX12_many_37 (tgt := 7) (by decide) ?_
        obtain rfl := so_1 hf
        refine go_sub [2, 3, 1, 4, 0] rfl ?_
        exact ih x2_11 x4_12 _ (lp_c hy) hk
set_option maxRecDepth 100000 in
set_option maxHeartbeats 4000000 in
theorem lw_X12_many_43 {C : GC} (hC : Cx C cX12_many 5 wsX12_many RX12 (some .int) (rm_d 0)) (x1 : Int32) (x2 : Int32) (h : PH) : ∀ (n9 : Nat) (x3 : Int32) (x4 : Int32) (y : Int32 × Int32), lp_f (fun s => lb_X12_many_43 x1 x2 h s.1 s.2) n9 (x3, x4) = some y → ∀ (hk : Go l0_B C 0 0 76 [(0, .ref 43), (1, .int x1), (2, .int x2), (3, .int y.1)] [] h), Go l0_B C 0 0 43 [(0, .ref 43), (1, .int x1), (2, .int x2), (3, .int x3), (4, .int x4)] [] h := by
  have hn12 : ∀ w ∈ wsX120, w ∈ wsX12_many := (fun _ hw => (List.mem_cons_of_mem _ (List.mem_append_right _ hw)))
  intro n9
  induction n9 with
  | zero =>
    intro x3 x4 y hlp
    cases hlp
  | succ n9 ih =>
    intro x3 x4 y hlp hk
    obtain ⟨k9, z, hk9, hf, hy⟩ := lp_e hlp
    cases hk9
    replace hf : lb_X12_many_43 x1 x2 h x3 x4 = some z := hf
    unfold lb_X12_many_43 at hf
    refine go_iload hC dX12_many_43 4 rfl ?_
    refine go_aload_n hC dX12_many_45 rfl 0 rfl ?_
    refine go_geti hC (j := 23) (idx := 173) (nm := "ways") (ds := "I") (b_43 _) rfl rfl hn12 (Nat.le_of_ble_eq_true rfl) rfl rfl (List.mem_cons_of_mem _ (List.mem_append_left _ (List.mem_of_getElem? (i := 2) rfl))) (Or.inl rfl) dX12_many_46 ?_
    refine go_icmp_ge hC dX12_many_49 (tgt := 76) (by decide) (fun c_29 => ?_) (fun c_29 => ?_)
    · replace hf := if_t c_29 hf
      obtain rfl := so_1 hf
      obtain rfl := lp_x hy
      refine go_sub [0, 1, 2, 3] rfl ?_
      exact hk
    · replace hf := if_f c_29 hf
      refine go_iload_n hC dX12_many_52 rfl 3 rfl ?_
      refine go_aload_n hC dX12_many_53 rfl 0 rfl ?_
      refine go_getr hC (j := 24) (idx := 50) (nm := "isHere") (ds := "[Z") (b_43 _) rfl rfl hn12 (Nat.le_of_ble_eq_true rfl) rfl rfl (List.mem_cons_of_mem _ (List.mem_append_left _ (List.mem_of_getElem? (i := 3) rfl))) (Or.inl rfl) dX12_many_54 ?_
      refine go_iload hC dX12_many_57 4 rfl ?_
      obtain ⟨g_23, hf⟩ := ga_e hf
      refine go_zald hC (b_57 _) g_23 dX12_many_59 ?_
      refine go_if_eq hC dX12_many_60 (tgt := 67) (by decide) (fun c_28 => ?_) (fun c_28 => ?_)
      · replace hf := if_t c_28 hf
        refine go_iconst hC dX12_many_67 k1_0 ?_
        refine go_iadd hC dX12_many_68 ?_
        obtain ⟨x3_24, ex3_24, hf⟩ := lt_e hf
        refine go_topi ex3_24 ?_
        refine go_istore_n hC dX12_many_69 rfl (Nat.le_of_ble_eq_true rfl) rfl ?_
        obtain ⟨x4_25, ex4_25, hf⟩ := lt_e hf
        refine go_iinc hC dX12_many_70 4 rfl k1_1 ex4_25 (Nat.le_of_ble_eq_true rfl) rfl ?_
        refine go_goto hC dX12_many_73 (tgt := 43) (by decide) ?_
        obtain rfl := so_1 hf
        refine go_sub [2, 3, 4, 1, 0] rfl ?_
        exact ih x3_24 x4_25 _ (lp_c hy) hk
      · replace hf := if_f c_28 hf
        refine go_iconst hC dX12_many_63 k1_1 ?_
        refine go_goto hC dX12_many_64 (tgt := 68) (by decide) ?_
        refine go_iadd hC dX12_many_68 ?_
        obtain ⟨x3_26, ex3_26, hf⟩ := lt_e hf
        refine go_topi ex3_26 ?_
        refine go_istore_n hC dX12_many_69 rfl (Nat.le_of_ble_eq_true rfl) rfl ?_
        obtain ⟨x4_27, ex4_27, hf⟩ := lt_e hf
        refine go_iinc hC dX12_many_70 4 rfl k1_1 ex4_27 (Nat.le_of_ble_eq_true rfl) rfl ?_
        refine go_goto hC dX12_many_73 (tgt := 43) (by decide) ?_
        obtain rfl := so_1 hf
        refine go_sub [2, 3, 4, 1, 0] rfl ?_
        exact ih x3_26 x4_27 _ (lp_c hy) hk
theorem e_X12_many : yX12_many.cls = RX12 ∧ yX12_many.cls ≠ "java/lang/invoke/MethodHandle" ∧ yX12_many.cls ≠ "java/lang/invoke/VarHandle" ∧ (parseMethodDescriptor yX12_many.desc).map (fun d => d.parameters.length) = some 1 := by decide +kernel
set_option maxRecDepth 100000 in
set_option maxHeartbeats 4000000 in
theorem c_X12_many (x1 : Int32) (h : PH) (r : Int32) (hf : f_X12_many x1 h = some r) : Con yX12_many wsX12_many (rm_d 0) l0_B [.ref 43, .int x1] h (some (.int r)) h := by
  have hn12 : ∀ w ∈ wsX120, w ∈ wsX12_many := (fun _ hw => (List.mem_cons_of_mem _ (List.mem_append_right _ hw)))
  refine con_i (ty := .int) (cc := cX12_many) (nL := 5) (by decide) rfl (Nat.le_of_ble_eq_true rfl) ?_
  intro C hC hret
  change Go l0_B C 0 0 0 [(0, .ref 43), (1, .int x1)] [] h
  unfold f_X12_many at hf
  refine go_iconst hC dX12_many_0 k1_0 ?_
  refine go_istore_n hC dX12_many_1 rfl (Nat.le_of_ble_eq_true rfl) rfl ?_
  refine go_iconst hC dX12_many_2 k1_0 ?_
  refine go_istore_n hC dX12_many_3 rfl (Nat.le_of_ble_eq_true rfl) rfl ?_
  refine go_iconst hC dX12_many_4 k1_0 ?_
  refine go_istore hC dX12_many_5 (Nat.le_of_ble_eq_true rfl) rfl ?_
  obtain ⟨s_15, hl, hf⟩ := bd_e1 hf
  refine go_sub [3, 4, 2, 1, 0] rfl ?_
  refine lw_X12_many_7 hC x1 0 h _ 0 0 s_15 hl ?_
  refine go_iconst hC dX12_many_40 k1_0 ?_
  refine go_istore hC dX12_many_41 (Nat.le_of_ble_eq_true rfl) rfl ?_
  obtain ⟨s_30, hl, hf⟩ := bd_e1 hf
  refine go_sub [1, 2, 3, 4, 0] rfl ?_
  refine lw_X12_many_43 hC x1 s_15.1 h _ 0 0 s_30 hl ?_
  refine go_iload_n hC dX12_many_76 rfl 1 rfl ?_
  by_cases c_31 : x1 = 0
  · replace hf := if_t c_31 hf
    refine go_tab hC dX12_many_77 c_31 (off := 39) (by decide) (by decide) (by decide) (tgt := 116) (by decide) ?_
    refine go_aload_n hC dX12_many_116 rfl 0 rfl ?_
    refine go_geti hC (j := 1) (idx := 117) (nm := "places") (ds := "I") (b_43 _) rfl rfl hn12 (Nat.le_of_ble_eq_true rfl) rfl rfl (List.mem_cons_of_mem _ (List.mem_append_left _ (List.mem_of_getElem? (i := 4) rfl))) (Or.inl rfl) dX12_many_117 ?_
    obtain rfl := so_1 hf
    exact hret _ _ rfl dX12_many_120
  · replace hf := if_f c_31 hf
    by_cases c_32 : x1 = 1
    · replace hf := if_t c_32 hf
      refine go_tab hC dX12_many_77 c_32 (off := 44) (by decide) (by decide) (by decide) (tgt := 121) (by decide) ?_
      refine go_aload_n hC dX12_many_121 rfl 0 rfl ?_
      refine go_geti hC (j := 3) (idx := 120) (nm := "runs") (ds := "I") (b_43 _) rfl rfl hn12 (Nat.le_of_ble_eq_true rfl) rfl rfl (List.mem_cons_of_mem _ (List.mem_append_left _ (List.mem_of_getElem? (i := 0) rfl))) (Or.inl rfl) dX12_many_122 ?_
      obtain rfl := so_1 hf
      exact hret _ _ rfl dX12_many_125
    · replace hf := if_f c_32 hf
      by_cases c_33 : x1 = 2
      · replace hf := if_t c_33 hf
        refine go_tab hC dX12_many_77 c_33 (off := 49) (by decide) (by decide) (by decide) (tgt := 126) (by decide) ?_
        refine go_iload_n hC dX12_many_126 rfl 2 rfl ?_
        obtain rfl := so_1 hf
        exact hret _ _ rfl dX12_many_127
      · replace hf := if_f c_33 hf
        by_cases c_34 : x1 = 3
        · replace hf := if_t c_34 hf
          refine go_tab hC dX12_many_77 c_34 (off := 51) (by decide) (by decide) (by decide) (tgt := 128) (by decide) ?_
          refine go_aload_n hC dX12_many_128 rfl 0 rfl ?_
          refine go_geti hC (j := 19) (idx := 170) (nm := "points") (ds := "I") (b_43 _) rfl rfl hn12 (Nat.le_of_ble_eq_true rfl) rfl rfl (List.mem_cons_of_mem _ (List.mem_append_left _ (List.mem_of_getElem? (i := 5) rfl))) (Or.inl rfl) dX12_many_129 ?_
          obtain rfl := so_1 hf
          exact hret _ _ rfl dX12_many_132
        · replace hf := if_f c_34 hf
          by_cases c_35 : x1 = 4
          · replace hf := if_t c_35 hf
            refine go_tab hC dX12_many_77 c_35 (off := 56) (by decide) (by decide) (by decide) (tgt := 133) (by decide) ?_
            refine go_iload_n hC dX12_many_133 rfl 3 rfl ?_
            obtain rfl := so_1 hf
            exact hret _ _ rfl dX12_many_134
          · replace hf := if_f c_35 hf
            by_cases c_36 : x1 = 5
            · replace hf := if_t c_36 hf
              refine go_tab hC dX12_many_77 c_36 (off := 58) (by decide) (by decide) (by decide) (tgt := 135) (by decide) ?_
              refine go_aload_n hC dX12_many_135 rfl 0 rfl ?_
              refine go_geti hC (j := 37) (idx := 176) (nm := "readings") (ds := "I") (b_43 _) rfl rfl hn12 (Nat.le_of_ble_eq_true rfl) rfl rfl (List.mem_cons_of_mem _ (List.mem_append_left _ (List.mem_of_getElem? (i := 6) rfl))) (Or.inl rfl) dX12_many_136 ?_
              obtain rfl := so_1 hf
              exact hret _ _ rfl dX12_many_139
            · replace hf := if_f c_36 hf
              refine go_tabOut hC dX12_many_77 (tb_6 c_31 c_32 c_33 c_34 c_35 c_36) (tgt := 140) (by decide) ?_
              refine go_bipush hC dX12_many_140 k8_m2 ?_
              obtain rfl := so_1 hf
              exact hret _ _ rfl dX12_many_142
