def f_X10_hasCode (x1 : Int32) (h : PH) : Option (Int32) :=
  if h.1 5 7 = 0 then (
  some 0)
  else (
  if (h.1 5 10) < 0 then (
  some 0)
  else (
  if (h.1 5 9) ≤ (h.1 5 10) then (
  some 0)
  else (
  if h.1 5 7 = 0 then (
  none)
  else (
  if 400 ≤ (h.1 5 10) then (
  some 0)
  else (
  if h.1 5 7 = 0 then (
  none)
  else (
  ga_i (h.1 5 10) 400 (
  if (h.1 4 (h.1 5 10).toNatClampNeg) = x1 then (
  some 1)
  else (
  some 0))))))))
theorem e_X10_hasCode : yX10_hasCode.cls = RX10 ∧ yX10_hasCode.cls ≠ "java/lang/invoke/MethodHandle" ∧ yX10_hasCode.cls ≠ "java/lang/invoke/VarHandle" ∧ (parseMethodDescriptor yX10_hasCode.desc).map (fun d => d.parameters.length) = some 1 := by decide +kernel
set_option maxRecDepth 100000 in
set_option maxHeartbeats 4000000 in
theorem c_X10_hasCode (x1 : Int32) (h : PH) (r : Int32) (hf : f_X10_hasCode x1 h = some r) : Con yX10_hasCode wsX10_hasCode (rm_d 0) l0_B [.ref 5, .int x1] h (some (.int r)) h := by
  have hn10 : ∀ w ∈ wsX100, w ∈ wsX10_hasCode := (fun _ hw => (List.mem_cons_of_mem _ (List.mem_append_right _ hw)))
  refine con_i (ty := .boolean) (cc := cX10_hasCode) (nL := 2) (by decide) rfl (Nat.le_of_ble_eq_true rfl) ?_
  intro C hC hret
  change Go l0_B C 0 0 0 [(0, .ref 5), (1, .int x1)] [] h
  unfold f_X10_hasCode at hf
  refine go_aload_n hC dX10_hasCode_0 rfl 0 rfl ?_
  by_cases c_1 : h.1 5 7 = 0
  · replace hf := if_t c_1 hf
    refine go_getn hC (j := 7) (idx := 24) (nm := "codes") (ds := "[I") (b_5 _) rfl rfl hn10 (Nat.le_of_ble_eq_true rfl) rfl rfl (List.mem_cons_of_mem _ (List.mem_append_left _ (List.mem_of_getElem? (i := 0) rfl))) (Or.inl rfl) c_1 dX10_hasCode_1 ?_
    refine go_ifnullN hC dX10_hasCode_4 (tgt := 54) (by decide) ?_
    refine go_iconst hC dX10_hasCode_54 k1_0 ?_
    obtain rfl := so_1 hf
    exact hret _ _ (zo_n (Or.inl rfl)) dX10_hasCode_55
  · replace hf := if_f c_1 hf
    refine go_geto hC (j := 7) (idx := 24) (nm := "codes") (ds := "[I") (b_5 _) rfl rfl hn10 (Nat.le_of_ble_eq_true rfl) rfl rfl (List.mem_cons_of_mem _ (List.mem_append_left _ (List.mem_of_getElem? (i := 0) rfl))) (Or.inl rfl) c_1 dX10_hasCode_1 ?_
    refine go_ifnull hC dX10_hasCode_4 ?_
    refine go_aload_n hC dX10_hasCode_7 rfl 0 rfl ?_
    refine go_geti hC (j := 10) (idx := 34) (nm := "at") (ds := "I") (b_5 _) rfl rfl hn10 (Nat.le_of_ble_eq_true rfl) rfl rfl (List.mem_cons_of_mem _ (List.mem_append_left _ (List.mem_of_getElem? (i := 1) rfl))) (Or.inl rfl) dX10_hasCode_8 ?_
    refine go_if_lt hC dX10_hasCode_11 (tgt := 54) (by decide) (fun c_9 => ?_) (fun c_9 => ?_)
    · replace hf := if_t c_9 hf
      refine go_iconst hC dX10_hasCode_54 k1_0 ?_
      obtain rfl := so_1 hf
      exact hret _ _ (zo_n (Or.inl rfl)) dX10_hasCode_55
    · replace hf := if_f c_9 hf
      refine go_aload_n hC dX10_hasCode_14 rfl 0 rfl ?_
      refine go_geti hC (j := 10) (idx := 34) (nm := "at") (ds := "I") (b_5 _) rfl rfl hn10 (Nat.le_of_ble_eq_true rfl) rfl rfl (List.mem_cons_of_mem _ (List.mem_append_left _ (List.mem_of_getElem? (i := 1) rfl))) (Or.inl rfl) dX10_hasCode_15 ?_
      refine go_aload_n hC dX10_hasCode_18 rfl 0 rfl ?_
      refine go_geti hC (j := 9) (idx := 31) (nm := "end") (ds := "I") (b_5 _) rfl rfl hn10 (Nat.le_of_ble_eq_true rfl) rfl rfl (List.mem_cons_of_mem _ (List.mem_append_left _ (List.mem_of_getElem? (i := 2) rfl))) (Or.inl rfl) dX10_hasCode_19 ?_
      refine go_icmp_ge hC dX10_hasCode_22 (tgt := 54) (by decide) (fun c_8 => ?_) (fun c_8 => ?_)
      · replace hf := if_t c_8 hf
        refine go_iconst hC dX10_hasCode_54 k1_0 ?_
        obtain rfl := so_1 hf
        exact hret _ _ (zo_n (Or.inl rfl)) dX10_hasCode_55
      · replace hf := if_f c_8 hf
        refine go_aload_n hC dX10_hasCode_25 rfl 0 rfl ?_
        refine go_geti hC (j := 10) (idx := 34) (nm := "at") (ds := "I") (b_5 _) rfl rfl hn10 (Nat.le_of_ble_eq_true rfl) rfl rfl (List.mem_cons_of_mem _ (List.mem_append_left _ (List.mem_of_getElem? (i := 1) rfl))) (Or.inl rfl) dX10_hasCode_26 ?_
        refine go_aload_n hC dX10_hasCode_29 rfl 0 rfl ?_
        by_cases c_2 : h.1 5 7 = 0
        · replace hf := if_t c_2 hf
          refine go_getn hC (j := 7) (idx := 24) (nm := "codes") (ds := "[I") (b_5 _) rfl rfl hn10 (Nat.le_of_ble_eq_true rfl) rfl rfl (List.mem_cons_of_mem _ (List.mem_append_left _ (List.mem_of_getElem? (i := 0) rfl))) (Or.inl rfl) c_2 dX10_hasCode_30 ?_
          cases hf
        · replace hf := if_f c_2 hf
          refine go_geto hC (j := 7) (idx := 24) (nm := "codes") (ds := "[I") (b_5 _) rfl rfl hn10 (Nat.le_of_ble_eq_true rfl) rfl rfl (List.mem_cons_of_mem _ (List.mem_append_left _ (List.mem_of_getElem? (i := 0) rfl))) (Or.inl rfl) c_2 dX10_hasCode_30 ?_
          refine go_alen hC (b_4 _) (Nat.le_of_ble_eq_true rfl) (v := 400) rfl dX10_hasCode_33 ?_
          refine go_icmp_ge hC dX10_hasCode_34 (tgt := 54) (by decide) (fun c_7 => ?_) (fun c_7 => ?_)
          · replace hf := if_t c_7 hf
            refine go_iconst hC dX10_hasCode_54 k1_0 ?_
            obtain rfl := so_1 hf
            exact hret _ _ (zo_n (Or.inl rfl)) dX10_hasCode_55
          · replace hf := if_f c_7 hf
            refine go_aload_n hC dX10_hasCode_37 rfl 0 rfl ?_
            by_cases c_3 : h.1 5 7 = 0
            · replace hf := if_t c_3 hf
              refine go_getn hC (j := 7) (idx := 24) (nm := "codes") (ds := "[I") (b_5 _) rfl rfl hn10 (Nat.le_of_ble_eq_true rfl) rfl rfl (List.mem_cons_of_mem _ (List.mem_append_left _ (List.mem_of_getElem? (i := 0) rfl))) (Or.inl rfl) c_3 dX10_hasCode_38 ?_
              refine go_aload_n hC dX10_hasCode_41 rfl 0 rfl ?_
              refine go_geti hC (j := 10) (idx := 34) (nm := "at") (ds := "I") (b_5 _) rfl rfl hn10 (Nat.le_of_ble_eq_true rfl) rfl rfl (List.mem_cons_of_mem _ (List.mem_append_left _ (List.mem_of_getElem? (i := 1) rfl))) (Or.inl rfl) dX10_hasCode_42 ?_
              cases hf
            · replace hf := if_f c_3 hf
              refine go_geto hC (j := 7) (idx := 24) (nm := "codes") (ds := "[I") (b_5 _) rfl rfl hn10 (Nat.le_of_ble_eq_true rfl) rfl rfl (List.mem_cons_of_mem _ (List.mem_append_left _ (List.mem_of_getElem? (i := 0) rfl))) (Or.inl rfl) c_3 dX10_hasCode_38 ?_
              refine go_aload_n hC dX10_hasCode_41 rfl 0 rfl ?_
              refine go_geti hC (j := 10) (idx := 34) (nm := "at") (ds := "I") (b_5 _) rfl rfl hn10 (Nat.le_of_ble_eq_true rfl) rfl rfl (List.mem_cons_of_mem _ (List.mem_append_left _ (List.mem_of_getElem? (i := 1) rfl))) (Or.inl rfl) dX10_hasCode_42 ?_
              obtain ⟨g_5, hf⟩ := ga_e hf
              refine go_iald hC (b_4 _) g_5 dX10_hasCode_45 ?_
              refine go_iload_n hC dX10_hasCode_46 rfl 1 rfl ?_
              refine go_icmp_ne hC dX10_hasCode_47 (tgt := 54) (by decide) (fun c_6 => ?_) (fun c_6 => ?_)
              · replace hf := if_f c_6 hf
                refine go_iconst hC dX10_hasCode_54 k1_0 ?_
                obtain rfl := so_1 hf
                exact hret _ _ (zo_n (Or.inl rfl)) dX10_hasCode_55
              · replace hf := if_t c_6 hf
                refine go_iconst hC dX10_hasCode_50 k1_1 ?_
                refine go_goto hC dX10_hasCode_51 (tgt := 55) (by decide) ?_
                obtain rfl := so_1 hf
                exact hret _ _ (zo_n (Or.inr rfl)) dX10_hasCode_55
def f_X10_isSign (x1 : Int32) (h : PH) : Option (Int32 × PH) :=
  bd_1 (f_X10_hasCode x1 h) fun r_1 =>
  if r_1 = 0 then (
  some (0, h))
  else (
  lt_b (ph_i h 5 10 ((h.1 5 10) + 1)) fun h_2 =>
  some (1, h_2))
theorem e_X10_isSign : yX10_isSign.cls = RX10 ∧ yX10_isSign.cls ≠ "java/lang/invoke/MethodHandle" ∧ yX10_isSign.cls ≠ "java/lang/invoke/VarHandle" ∧ (parseMethodDescriptor yX10_isSign.desc).map (fun d => d.parameters.length) = some 1 := by decide +kernel
set_option maxRecDepth 100000 in
set_option maxHeartbeats 4000000 in
theorem c_X10_isSign (x1 : Int32) (h : PH) (h2 : PH) (r : Int32) (hf : f_X10_isSign x1 h = some (r, h2)) : Con yX10_isSign wsX10_isSign (rm_d 1) l0_B [.ref 5, .int x1] h (some (.int r)) h2 := by
  have hn10 : ∀ w ∈ wsX100, w ∈ wsX10_isSign := (fun _ hw => (List.mem_cons_of_mem _ (List.mem_append_right _ hw)))
  refine con_i (ty := .boolean) (cc := cX10_isSign) (nL := 2) (by decide) rfl (Nat.le_of_ble_eq_true rfl) ?_
  intro C hC hret
  change Go l0_B C 0 0 0 [(0, .ref 5), (1, .int x1)] [] h
  unfold f_X10_isSign at hf
  refine go_aload_n hC dX10_isSign_0 rfl 0 rfl ?_
  refine go_iload_n hC dX10_isSign_1 rfl 1 rfl ?_
  obtain ⟨r_1, hc, hf⟩ := bd_e1 hf
  refine go_callV hC (c_X10_hasCode x1 h r_1 hc) gX10_isSign_X10_hasCode rfl ⟨rfl, rfl⟩ 1 e_X10_hasCode ⟨Nat.le_of_ble_eq_true rfl, Nat.le_of_ble_eq_true rfl⟩ (b_5 _) rfl rfl (st := []) (st1 := [.int r_1]) rfl rfl (Nat.le_of_ble_eq_true rfl) ⟨Nat.zero_le _, Nat.zero_le _⟩ dX10_isSign_2 ?_
  refine go_if_ne hC dX10_isSign_5 (tgt := 10) (by decide) (fun c_3 => ?_) (fun c_3 => ?_)
  · replace hf := if_f c_3 hf
    refine go_aload_n hC dX10_isSign_10 rfl 0 rfl ?_
    refine go_dup hC dX10_isSign_11 rfl ?_
    refine go_geti hC (j := 10) (idx := 34) (nm := "at") (ds := "I") (b_5 _) rfl rfl hn10 (Nat.le_of_ble_eq_true rfl) rfl rfl (List.mem_cons_of_mem _ (List.mem_append_left _ (List.mem_of_getElem? (i := 0) rfl))) (Or.inl rfl) dX10_isSign_12 ?_
    refine go_iconst hC dX10_isSign_15 k1_1 ?_
    refine go_iadd hC dX10_isSign_16 ?_
    obtain ⟨h_2, eh_2, hf⟩ := lt_e hf
    refine go_puti hC tyX10 (j := 10) (idx := 34) (nm := "at") (ds := "I") (b_5 _) rfl rfl hn10 tyX10_ok nmX10 (Nat.le_of_ble_eq_true rfl) rfl rfl (List.mem_cons_of_mem _ (List.mem_append_left _ (List.mem_of_getElem? (i := 0) rfl))) (Or.inl rfl) rfl (tyX10_ok _ (Nat.le_of_ble_eq_true rfl)) dX10_isSign_17 ?_
    refine go_toph eh_2 ?_
    refine go_iconst hC dX10_isSign_20 k1_1 ?_
    obtain ⟨rfl, rfl⟩ := so_2 hf
    exact hret _ _ (zo_n (Or.inr rfl)) dX10_isSign_21
  · replace hf := if_t c_3 hf
    refine go_iconst hC dX10_isSign_8 k1_0 ?_
    obtain ⟨rfl, rfl⟩ := so_2 hf
    exact hret _ _ (zo_n (Or.inl rfl)) dX10_isSign_9
def lb_X10_digit_2 (x2 : Int32) (x3 : Int32) (h : PH) : Option ((Int32 × PH) ⊕ ((Int32 × PH) ⊕ (Int32 × PH))) :=
  if x2 < x3 then (
  some (.inr (.inr (x3, h))))
  else (
  bd_2 (f_X10_isSign (48 + x3) h) fun r_6 h_7 =>
  if r_6 = 0 then (
  lt_b (x3 + 1) fun x3_8 =>
  some (.inl (x3_8, h_7)))
  else (
  some (.inr (.inl ((x3, h_7))))))
def f_X10_digit (x1 : Int32) (x2 : Int32) (h : PH) : Option (Int32 × PH) :=
  bd_1 (lp_f (fun s => lb_X10_digit_2 x2 s.1 s.2) fu_l (x1, h)) fun s_11 => sw_b s_11 (fun r_13 => some r_13) fun e_12 =>
  some ((-1), e_12.2)
set_option maxRecDepth 100000 in
set_option maxHeartbeats 4000000 in
theorem lw_X10_digit_2 {C : GC} (hC : Cx C cX10_digit 4 wsX10_digit RX10 (some .int) (rm_d 2)) (x2 : Int32) : ∀ (n9 : Nat) (x3 : Int32) (h : PH) (y : (Int32 × PH) ⊕ (Int32 × PH)), lp_f (fun s => lb_X10_digit_2 x2 s.1 s.2) n9 (x3, h) = some y → ∀ (hk : match y with | .inl r => (∀ (pc : Nat) (L : List (Nat × Value)), narrow .int (.int r.1) = .int r.1 → decode cX10_digit pc = .ok (.ireturn, 1) → Go l0_B C 0 0 pc L [.int r.1] r.2) | .inr e => Go l0_B C 0 0 26 [] [] e.2), Go l0_B C 0 0 2 [(0, .ref 5), (2, .int x2), (3, .int x3)] [] h := by

  intro n9
  induction n9 with
  | zero =>
    intro x3 h y hlp
    cases hlp
  | succ n9 ih =>
    intro x3 h y hlp hk
    obtain ⟨k9, z, hk9, hf, hy⟩ := lp_e hlp
    cases hk9
    replace hf : lb_X10_digit_2 x2 x3 h = some z := hf
    unfold lb_X10_digit_2 at hf
    refine go_iload_n hC dX10_digit_2 rfl 2 rfl ?_
    refine go_iload_n hC dX10_digit_3 rfl 1 rfl ?_
    refine go_icmp_gt hC dX10_digit_4 (tgt := 26) (by decide) (fun c_10 => ?_) (fun c_10 => ?_)
    · replace hf := if_t c_10 hf
      obtain rfl := so_1 hf
      obtain rfl := lp_x hy
      refine go_sub [] rfl ?_
      exact hk
    · replace hf := if_f c_10 hf
      refine go_aload_n hC dX10_digit_7 rfl 0 rfl ?_
      refine go_bipush hC dX10_digit_8 k8_48 ?_
      refine go_iload_n hC dX10_digit_10 rfl 2 rfl ?_
      refine go_iadd hC dX10_digit_11 ?_
      obtain ⟨r_6, h_7, hc, hf⟩ := bd_e2 hf
      refine go_callV hC (c_X10_isSign (48 + x3) h h_7 r_6 hc) gX10_digit_X10_isSign rfl ⟨rfl, rfl⟩ 1 e_X10_isSign ⟨Nat.le_of_ble_eq_true rfl, Nat.le_of_ble_eq_true rfl⟩ (b_5 _) rfl rfl (st := []) (st1 := [.int r_6]) rfl rfl (Nat.le_of_ble_eq_true rfl) ⟨Nat.zero_le _, Nat.zero_le _⟩ dX10_digit_12 ?_
      refine go_if_eq hC dX10_digit_15 (tgt := 20) (by decide) (fun c_9 => ?_) (fun c_9 => ?_)
      · replace hf := if_t c_9 hf
        obtain ⟨x3_8, ex3_8, hf⟩ := lt_e hf
        refine go_iinc hC dX10_digit_20 2 rfl k1_1 ex3_8 (Nat.le_of_ble_eq_true rfl) rfl ?_
        refine go_goto hC dX10_digit_23 (tgt := 2) (by decide) ?_
        obtain rfl := so_1 hf
        refine go_sub [1, 2, 0] rfl ?_
        exact ih x3_8 h_7 _ (lp_c hy) hk
      · replace hf := if_f c_9 hf
        refine go_iload_n hC dX10_digit_18 rfl 2 rfl ?_
        obtain rfl := so_1 hf
        obtain rfl := lp_x hy
        exact hk _ _ rfl dX10_digit_19
theorem e_X10_digit : yX10_digit.cls = RX10 ∧ yX10_digit.cls ≠ "java/lang/invoke/MethodHandle" ∧ yX10_digit.cls ≠ "java/lang/invoke/VarHandle" ∧ (parseMethodDescriptor yX10_digit.desc).map (fun d => d.parameters.length) = some 2 := by decide +kernel
set_option maxRecDepth 100000 in
set_option maxHeartbeats 4000000 in
theorem c_X10_digit (x1 : Int32) (x2 : Int32) (h : PH) (h2 : PH) (r : Int32) (hf : f_X10_digit x1 x2 h = some (r, h2)) : Con yX10_digit wsX10_digit (rm_d 2) l0_B [.ref 5, .int x1, .int x2] h (some (.int r)) h2 := by

  refine con_i (ty := .int) (cc := cX10_digit) (nL := 4) (by decide) rfl (Nat.le_of_ble_eq_true rfl) ?_
  intro C hC hret
  change Go l0_B C 0 0 0 [(0, .ref 5), (1, .int x1), (2, .int x2)] [] h
  unfold f_X10_digit at hf
  refine go_iload_n hC dX10_digit_0 rfl 1 rfl ?_
  refine go_istore_n hC dX10_digit_1 rfl (Nat.le_of_ble_eq_true rfl) rfl ?_
  obtain ⟨s_11, hl, hf⟩ := bd_e1 hf
  refine go_sub [1, 3, 0] rfl ?_
  refine lw_X10_digit_2 hC x2 _ x1 h s_11 hl ?_
  rcases s_11 with r_13 | e_12
  · replace hf : some r_13 = some _ := hf
    cases hf
    exact hret
  · replace hf := sw_r hf
    refine go_iconst hC dX10_digit_26 k1_m1 ?_
    obtain ⟨rfl, rfl⟩ := so_2 hf
    exact hret _ _ rfl dX10_digit_27
def f_X10_isHeadRead (h : PH) : Option (Int32 × PH) :=
  bd_2 (f_X10_isSign 104 h) fun r_1 h_2 =>
  if r_1 = 0 then (
  some (0, h_2))
  else (
  bd_2 (f_X10_digit 2 8 h_2) fun r_3 h_4 =>
  lt_b (ph_i h_4 5 4 r_3) fun h_5 =>
  if (h_5.1 5 4) = (-1) then (
  some (0, h_5))
  else (
  bd_2 (f_X10_isSign 59 h_5) fun r_6 h_7 =>
  if r_6 = 0 then (
  some (0, h_7))
  else (
  bd_2 (f_X10_isSign 98 h_7) fun r_8 h_9 =>
  if r_8 = 0 then (
  some (0, h_9))
  else (
  bd_2 (f_X10_digit 0 ((h_9.1 5 4) - 1) h_9) fun r_10 h_11 =>
  lt_b (ph_i h_11 5 5 r_10) fun h_12 =>
  if (h_12.1 5 5) = (-1) then (
  some (0, h_12))
  else (
  some (1, h_12))))))
theorem e_X10_isHeadRead : yX10_isHeadRead.cls = RX10 ∧ yX10_isHeadRead.cls ≠ "java/lang/invoke/MethodHandle" ∧ yX10_isHeadRead.cls ≠ "java/lang/invoke/VarHandle" ∧ (parseMethodDescriptor yX10_isHeadRead.desc).map (fun d => d.parameters.length) = some 0 := by decide +kernel
set_option maxRecDepth 100000 in
set_option maxHeartbeats 4000000 in
theorem c_X10_isHeadRead (h : PH) (h2 : PH) (r : Int32) (hf : f_X10_isHeadRead h = some (r, h2)) : Con yX10_isHeadRead wsX10_isHeadRead (rm_d 3) l0_B [.ref 5] h (some (.int r)) h2 := by
  have hn10 : ∀ w ∈ wsX100, w ∈ wsX10_isHeadRead := (fun _ hw => (List.mem_cons_of_mem _ (List.mem_append_right _ hw)))
  refine con_i (ty := .boolean) (cc := cX10_isHeadRead) (nL := 1) (by decide) rfl (Nat.le_of_ble_eq_true rfl) ?_
  intro C hC hret
  change Go l0_B C 0 0 0 [(0, .ref 5)] [] h
  unfold f_X10_isHeadRead at hf
  refine go_aload_n hC dX10_isHeadRead_0 rfl 0 rfl ?_
  refine go_bipush hC dX10_isHeadRead_1 k8_104 ?_
  obtain ⟨r_1, h_2, hc, hf⟩ := bd_e2 hf
  refine go_callV hC (c_X10_isSign 104 h h_2 r_1 hc) gX10_isHeadRead_X10_isSign rfl ⟨rfl, rfl⟩ 1 e_X10_isSign ⟨Nat.le_of_ble_eq_true rfl, Nat.le_of_ble_eq_true rfl⟩ (b_5 _) rfl rfl (st := []) (st1 := [.int r_1]) rfl rfl (Nat.le_of_ble_eq_true rfl) ⟨Nat.zero_le _, Nat.zero_le _⟩ dX10_isHeadRead_3 ?_
  refine go_if_ne hC dX10_isHeadRead_6 (tgt := 11) (by decide) (fun c_17 => ?_) (fun c_17 => ?_)
  · replace hf := if_f c_17 hf
    refine go_aload_n hC dX10_isHeadRead_11 rfl 0 rfl ?_
    refine go_aload_n hC dX10_isHeadRead_12 rfl 0 rfl ?_
    refine go_iconst hC dX10_isHeadRead_13 k1_2 ?_
    refine go_bipush hC dX10_isHeadRead_14 k8_8 ?_
    obtain ⟨r_3, h_4, hc, hf⟩ := bd_e2 hf
    refine go_callV hC (c_X10_digit 2 8 h_2 h_4 r_3 hc) gX10_isHeadRead_X10_digit rfl ⟨rfl, rfl⟩ 2 e_X10_digit ⟨Nat.le_of_ble_eq_true rfl, Nat.le_of_ble_eq_true rfl⟩ (b_5 _) rfl rfl (st := [.ref 5]) (st1 := [.int r_3, .ref 5]) rfl rfl (Nat.le_of_ble_eq_true rfl) ⟨Nat.zero_le _, Nat.zero_le _⟩ dX10_isHeadRead_16 ?_
    obtain ⟨h_5, eh_5, hf⟩ := lt_e hf
    refine go_puti hC tyX10 (j := 4) (idx := 55) (nm := "places") (ds := "I") (b_5 _) rfl rfl hn10 tyX10_ok nmX10 (Nat.le_of_ble_eq_true rfl) rfl rfl (List.mem_cons_of_mem _ (List.mem_append_left _ (List.mem_of_getElem? (i := 0) rfl))) (Or.inl rfl) rfl (tyX10_ok _ (Nat.le_of_ble_eq_true rfl)) dX10_isHeadRead_19 ?_
    refine go_toph eh_5 ?_
    refine go_aload_n hC dX10_isHeadRead_22 rfl 0 rfl ?_
    refine go_geti hC (j := 4) (idx := 55) (nm := "places") (ds := "I") (b_5 _) rfl rfl hn10 (Nat.le_of_ble_eq_true rfl) rfl rfl (List.mem_cons_of_mem _ (List.mem_append_left _ (List.mem_of_getElem? (i := 0) rfl))) (Or.inl rfl) dX10_isHeadRead_23 ?_
    refine go_iconst hC dX10_isHeadRead_26 k1_m1 ?_
    refine go_icmp_eq hC dX10_isHeadRead_27 (tgt := 48) (by decide) (fun c_16 => ?_) (fun c_16 => ?_)
    · replace hf := if_t c_16 hf
      refine go_iconst hC dX10_isHeadRead_48 k1_0 ?_
      obtain ⟨rfl, rfl⟩ := so_2 hf
      exact hret _ _ (zo_n (Or.inl rfl)) dX10_isHeadRead_49
    · replace hf := if_f c_16 hf
      refine go_aload_n hC dX10_isHeadRead_30 rfl 0 rfl ?_
      refine go_bipush hC dX10_isHeadRead_31 k8_59 ?_
      obtain ⟨r_6, h_7, hc, hf⟩ := bd_e2 hf
      refine go_callV hC (c_X10_isSign 59 h_5 h_7 r_6 hc) gX10_isHeadRead_X10_isSign rfl ⟨rfl, rfl⟩ 1 e_X10_isSign ⟨Nat.le_of_ble_eq_true rfl, Nat.le_of_ble_eq_true rfl⟩ (b_5 _) rfl rfl (st := []) (st1 := [.int r_6]) rfl rfl (Nat.le_of_ble_eq_true rfl) ⟨Nat.zero_le _, Nat.zero_le _⟩ dX10_isHeadRead_33 ?_
      refine go_if_eq hC dX10_isHeadRead_36 (tgt := 48) (by decide) (fun c_15 => ?_) (fun c_15 => ?_)
      · replace hf := if_t c_15 hf
        refine go_iconst hC dX10_isHeadRead_48 k1_0 ?_
        obtain ⟨rfl, rfl⟩ := so_2 hf
        exact hret _ _ (zo_n (Or.inl rfl)) dX10_isHeadRead_49
      · replace hf := if_f c_15 hf
        refine go_aload_n hC dX10_isHeadRead_39 rfl 0 rfl ?_
        refine go_bipush hC dX10_isHeadRead_40 k8_98 ?_
        obtain ⟨r_8, h_9, hc, hf⟩ := bd_e2 hf
        refine go_callV hC (c_X10_isSign 98 h_7 h_9 r_8 hc) gX10_isHeadRead_X10_isSign rfl ⟨rfl, rfl⟩ 1 e_X10_isSign ⟨Nat.le_of_ble_eq_true rfl, Nat.le_of_ble_eq_true rfl⟩ (b_5 _) rfl rfl (st := []) (st1 := [.int r_8]) rfl rfl (Nat.le_of_ble_eq_true rfl) ⟨Nat.zero_le _, Nat.zero_le _⟩ dX10_isHeadRead_42 ?_
        refine go_if_ne hC dX10_isHeadRead_45 (tgt := 50) (by decide) (fun c_14 => ?_) (fun c_14 => ?_)
        · replace hf := if_f c_14 hf
          refine go_aload_n hC dX10_isHeadRead_50 rfl 0 rfl ?_
          refine go_aload_n hC dX10_isHeadRead_51 rfl 0 rfl ?_
          refine go_iconst hC dX10_isHeadRead_52 k1_0 ?_
          refine go_aload_n hC dX10_isHeadRead_53 rfl 0 rfl ?_
          refine go_geti hC (j := 4) (idx := 55) (nm := "places") (ds := "I") (b_5 _) rfl rfl hn10 (Nat.le_of_ble_eq_true rfl) rfl rfl (List.mem_cons_of_mem _ (List.mem_append_left _ (List.mem_of_getElem? (i := 0) rfl))) (Or.inl rfl) dX10_isHeadRead_54 ?_
          refine go_iconst hC dX10_isHeadRead_57 k1_1 ?_
          refine go_isub hC dX10_isHeadRead_58 ?_
          obtain ⟨r_10, h_11, hc, hf⟩ := bd_e2 hf
          refine go_callV hC (c_X10_digit 0 ((h_9.1 5 4) - 1) h_9 h_11 r_10 hc) gX10_isHeadRead_X10_digit rfl ⟨rfl, rfl⟩ 2 e_X10_digit ⟨Nat.le_of_ble_eq_true rfl, Nat.le_of_ble_eq_true rfl⟩ (b_5 _) rfl rfl (st := [.ref 5]) (st1 := [.int r_10, .ref 5]) rfl rfl (Nat.le_of_ble_eq_true rfl) ⟨Nat.zero_le _, Nat.zero_le _⟩ dX10_isHeadRead_59 ?_
          obtain ⟨h_12, eh_12, hf⟩ := lt_e hf
          refine go_puti hC tyX10 (j := 5) (idx := 58) (nm := "boxPlace") (ds := "I") (b_5 _) rfl rfl hn10 tyX10_ok nmX10 (Nat.le_of_ble_eq_true rfl) rfl rfl (List.mem_cons_of_mem _ (List.mem_append_left _ (List.mem_of_getElem? (i := 1) rfl))) (Or.inl rfl) rfl (tyX10_ok _ (Nat.le_of_ble_eq_true rfl)) dX10_isHeadRead_62 ?_
          refine go_toph eh_12 ?_
          refine go_aload_n hC dX10_isHeadRead_65 rfl 0 rfl ?_
          refine go_geti hC (j := 5) (idx := 58) (nm := "boxPlace") (ds := "I") (b_5 _) rfl rfl hn10 (Nat.le_of_ble_eq_true rfl) rfl rfl (List.mem_cons_of_mem _ (List.mem_append_left _ (List.mem_of_getElem? (i := 1) rfl))) (Or.inl rfl) dX10_isHeadRead_66 ?_
          refine go_iconst hC dX10_isHeadRead_69 k1_m1 ?_
          refine go_icmp_eq hC dX10_isHeadRead_70 (tgt := 77) (by decide) (fun c_13 => ?_) (fun c_13 => ?_)
          · replace hf := if_t c_13 hf
            refine go_iconst hC dX10_isHeadRead_77 k1_0 ?_
            obtain ⟨rfl, rfl⟩ := so_2 hf
            exact hret _ _ (zo_n (Or.inl rfl)) dX10_isHeadRead_78
          · replace hf := if_f c_13 hf
            refine go_iconst hC dX10_isHeadRead_73 k1_1 ?_
            refine go_goto hC dX10_isHeadRead_74 (tgt := 78) (by decide) ?_
            obtain ⟨rfl, rfl⟩ := so_2 hf
            exact hret _ _ (zo_n (Or.inr rfl)) dX10_isHeadRead_78
        · replace hf := if_t c_14 hf
          refine go_iconst hC dX10_isHeadRead_48 k1_0 ?_
          obtain ⟨rfl, rfl⟩ := so_2 hf
          exact hret _ _ (zo_n (Or.inl rfl)) dX10_isHeadRead_49
  · replace hf := if_t c_17 hf
    refine go_iconst hC dX10_isHeadRead_9 k1_0 ?_
    obtain ⟨rfl, rfl⟩ := so_2 hf
    exact hret _ _ (zo_n (Or.inl rfl)) dX10_isHeadRead_10
def f_X10_isRunRead (x1 : Int32) (h : PH) : Option (Int32 × PH) :=
  bd_2 (f_X10_digit 0 ((h.1 5 4) - 1) h) fun r_1 h_2 =>
  ga_i x1 14 (
  lt_b (ph_i h_2 6 x1.toNatClampNeg r_1) fun h_4 =>
  ga_i x1 14 (
  if (h_4.1 6 x1.toNatClampNeg) = (-1) then (
  some (0, h_4))
  else (
  ga_i x1 14 (
  bd_1 (f_X10_hasCode (48 + (h_4.1 6 x1.toNatClampNeg)) h_4) fun r_7 =>
  if r_7 = 0 then (
  bd_2 (f_X10_digit 0 ((h_4.1 5 4) - 1) h_4) fun r_8 h_9 =>
  ga_i x1 14 (
  lt_b (ph_i h_9 7 x1.toNatClampNeg r_8) fun h_11 =>
  ga_i x1 14 (
  if (h_11.1 7 x1.toNatClampNeg) = (-1) then (
  some (0, h_11))
  else (
  bd_2 (f_X10_digit 1 9 h_11) fun r_13 h_14 =>
  ga_i x1 14 (
  lt_b (ph_i h_14 8 x1.toNatClampNeg r_13) fun h_16 =>
  ga_i x1 14 (
  if (h_16.1 8 x1.toNatClampNeg) = (-1) then (
  some (0, h_16))
  else (
  ga_i x1 14 (
  lt_b (ph_i h_16 9 x1.toNatClampNeg 0) fun h_19 =>
  bd_2 (f_X10_isSign 100 h_19) fun r_20 h_21 =>
  if r_20 = 0 then (
  ga_i x1 14 (
  if (h_21.1 9 x1.toNatClampNeg) = (-1) then (
  some (0, h_21))
  else (
  some (1, h_21))))
  else (
  bd_2 (f_X10_digit 1 9 h_21) fun r_24 h_25 =>
  ga_i x1 14 (
  lt_b (ph_i h_25 9 x1.toNatClampNeg r_24) fun h_27 =>
  ga_i x1 14 (
  if (h_27.1 9 x1.toNatClampNeg) = (-1) then (
  some (0, h_27))
  else (
  some (1, h_27)))))))))))))
  else (
  some (0, h_4))))))
theorem e_X10_isRunRead : yX10_isRunRead.cls = RX10 ∧ yX10_isRunRead.cls ≠ "java/lang/invoke/MethodHandle" ∧ yX10_isRunRead.cls ≠ "java/lang/invoke/VarHandle" ∧ (parseMethodDescriptor yX10_isRunRead.desc).map (fun d => d.parameters.length) = some 1 := by decide +kernel
set_option maxRecDepth 100000 in
set_option maxHeartbeats 4000000 in
theorem c_X10_isRunRead (x1 : Int32) (h : PH) (h2 : PH) (r : Int32) (hf : f_X10_isRunRead x1 h = some (r, h2)) : Con yX10_isRunRead wsX10_isRunRead (rm_d 3) l0_B [.ref 5, .int x1] h (some (.int r)) h2 := by
  have hn10 : ∀ w ∈ wsX100, w ∈ wsX10_isRunRead := (fun _ hw => (List.mem_cons_of_mem _ (List.mem_append_right _ hw)))
  refine con_i (ty := .boolean) (cc := cX10_isRunRead) (nL := 2) (by decide) rfl (Nat.le_of_ble_eq_true rfl) ?_
  intro C hC hret
  change Go l0_B C 0 0 0 [(0, .ref 5), (1, .int x1)] [] h
  unfold f_X10_isRunRead at hf
  refine go_aload_n hC dX10_isRunRead_0 rfl 0 rfl ?_
  refine go_getr hC (j := 0) (idx := 9) (nm := "from") (ds := "[I") (b_5 _) rfl rfl hn10 (Nat.le_of_ble_eq_true rfl) rfl rfl (List.mem_cons_of_mem _ (List.mem_append_left _ (List.mem_of_getElem? (i := 0) rfl))) (Or.inl rfl) dX10_isRunRead_1 ?_
  refine go_iload_n hC dX10_isRunRead_4 rfl 1 rfl ?_
  refine go_aload_n hC dX10_isRunRead_5 rfl 0 rfl ?_
  refine go_iconst hC dX10_isRunRead_6 k1_0 ?_
  refine go_aload_n hC dX10_isRunRead_7 rfl 0 rfl ?_
  refine go_geti hC (j := 4) (idx := 55) (nm := "places") (ds := "I") (b_5 _) rfl rfl hn10 (Nat.le_of_ble_eq_true rfl) rfl rfl (List.mem_cons_of_mem _ (List.mem_append_left _ (List.mem_of_getElem? (i := 1) rfl))) (Or.inl rfl) dX10_isRunRead_8 ?_
  refine go_iconst hC dX10_isRunRead_11 k1_1 ?_
  refine go_isub hC dX10_isRunRead_12 ?_
  obtain ⟨r_1, h_2, hc, hf⟩ := bd_e2 hf
  refine go_callV hC (c_X10_digit 0 ((h.1 5 4) - 1) h h_2 r_1 hc) gX10_isRunRead_X10_digit rfl ⟨rfl, rfl⟩ 2 e_X10_digit ⟨Nat.le_of_ble_eq_true rfl, Nat.le_of_ble_eq_true rfl⟩ (b_5 _) rfl rfl (st := [.int x1, .ref 6]) (st1 := [.int r_1, .int x1, .ref 6]) rfl rfl (Nat.le_of_ble_eq_true rfl) ⟨Nat.zero_le _, Nat.zero_le _⟩ dX10_isRunRead_13 ?_
  obtain ⟨g_3, hf⟩ := ga_e hf
  obtain ⟨h_4, eh_4, hf⟩ := lt_e hf
  refine go_iast hC (b_6 _) g_3 dX10_isRunRead_16 ?_
  refine go_toph eh_4 ?_
  refine go_aload_n hC dX10_isRunRead_17 rfl 0 rfl ?_
  refine go_getr hC (j := 0) (idx := 9) (nm := "from") (ds := "[I") (b_5 _) rfl rfl hn10 (Nat.le_of_ble_eq_true rfl) rfl rfl (List.mem_cons_of_mem _ (List.mem_append_left _ (List.mem_of_getElem? (i := 0) rfl))) (Or.inl rfl) dX10_isRunRead_18 ?_
  refine go_iload_n hC dX10_isRunRead_21 rfl 1 rfl ?_
  obtain ⟨g_5, hf⟩ := ga_e hf
  refine go_iald hC (b_6 _) g_5 dX10_isRunRead_22 ?_
  refine go_iconst hC dX10_isRunRead_23 k1_m1 ?_
  refine go_icmp_eq hC dX10_isRunRead_24 (tgt := 43) (by decide) (fun c_34 => ?_) (fun c_34 => ?_)
  · replace hf := if_t c_34 hf
    refine go_iconst hC dX10_isRunRead_43 k1_0 ?_
    obtain ⟨rfl, rfl⟩ := so_2 hf
    exact hret _ _ (zo_n (Or.inl rfl)) dX10_isRunRead_44
  · replace hf := if_f c_34 hf
    refine go_aload_n hC dX10_isRunRead_27 rfl 0 rfl ?_
    refine go_bipush hC dX10_isRunRead_28 k8_48 ?_
    refine go_aload_n hC dX10_isRunRead_30 rfl 0 rfl ?_
    refine go_getr hC (j := 0) (idx := 9) (nm := "from") (ds := "[I") (b_5 _) rfl rfl hn10 (Nat.le_of_ble_eq_true rfl) rfl rfl (List.mem_cons_of_mem _ (List.mem_append_left _ (List.mem_of_getElem? (i := 0) rfl))) (Or.inl rfl) dX10_isRunRead_31 ?_
    refine go_iload_n hC dX10_isRunRead_34 rfl 1 rfl ?_
    obtain ⟨g_6, hf⟩ := ga_e hf
    refine go_iald hC (b_6 _) g_6 dX10_isRunRead_35 ?_
    refine go_iadd hC dX10_isRunRead_36 ?_
    obtain ⟨r_7, hc, hf⟩ := bd_e1 hf
    refine go_callV hC (c_X10_hasCode (48 + (h_4.1 6 x1.toNatClampNeg)) h_4 r_7 hc) gX10_isRunRead_X10_hasCode rfl ⟨rfl, rfl⟩ 1 e_X10_hasCode ⟨Nat.le_of_ble_eq_true rfl, Nat.le_of_ble_eq_true rfl⟩ (b_5 _) rfl rfl (st := []) (st1 := [.int r_7]) rfl rfl (Nat.le_of_ble_eq_true rfl) ⟨Nat.zero_le _, Nat.zero_le _⟩ dX10_isRunRead_37 ?_
    refine go_if_eq hC dX10_isRunRead_40 (tgt := 45) (by decide) (fun c_33 => ?_) (fun c_33 => ?_)
    · replace hf := if_t c_33 hf
      refine go_aload_n hC dX10_isRunRead_45 rfl 0 rfl ?_
      refine go_getr hC (j := 1) (idx := 15) (nm := "to") (ds := "[I") (b_5 _) rfl rfl hn10 (Nat.le_of_ble_eq_true rfl) rfl rfl (List.mem_cons_of_mem _ (List.mem_append_left _ (List.mem_of_getElem? (i := 2) rfl))) (Or.inl rfl) dX10_isRunRead_46 ?_
      refine go_iload_n hC dX10_isRunRead_49 rfl 1 rfl ?_
      refine go_aload_n hC dX10_isRunRead_50 rfl 0 rfl ?_
      refine go_iconst hC dX10_isRunRead_51 k1_0 ?_
      refine go_aload_n hC dX10_isRunRead_52 rfl 0 rfl ?_
      refine go_geti hC (j := 4) (idx := 55) (nm := "places") (ds := "I") (b_5 _) rfl rfl hn10 (Nat.le_of_ble_eq_true rfl) rfl rfl (List.mem_cons_of_mem _ (List.mem_append_left _ (List.mem_of_getElem? (i := 1) rfl))) (Or.inl rfl) dX10_isRunRead_53 ?_
      refine go_iconst hC dX10_isRunRead_56 k1_1 ?_
      refine go_isub hC dX10_isRunRead_57 ?_
      obtain ⟨r_8, h_9, hc, hf⟩ := bd_e2 hf
      refine go_callV hC (c_X10_digit 0 ((h_4.1 5 4) - 1) h_4 h_9 r_8 hc) gX10_isRunRead_X10_digit rfl ⟨rfl, rfl⟩ 2 e_X10_digit ⟨Nat.le_of_ble_eq_true rfl, Nat.le_of_ble_eq_true rfl⟩ (b_5 _) rfl rfl (st := [.int x1, .ref 7]) (st1 := [.int r_8, .int x1, .ref 7]) rfl rfl (Nat.le_of_ble_eq_true rfl) ⟨Nat.zero_le _, Nat.zero_le _⟩ dX10_isRunRead_58 ?_
      obtain ⟨g_10, hf⟩ := ga_e hf
      obtain ⟨h_11, eh_11, hf⟩ := lt_e hf
      refine go_iast hC (b_7 _) g_10 dX10_isRunRead_61 ?_
      refine go_toph eh_11 ?_
      refine go_aload_n hC dX10_isRunRead_62 rfl 0 rfl ?_
      refine go_getr hC (j := 1) (idx := 15) (nm := "to") (ds := "[I") (b_5 _) rfl rfl hn10 (Nat.le_of_ble_eq_true rfl) rfl rfl (List.mem_cons_of_mem _ (List.mem_append_left _ (List.mem_of_getElem? (i := 2) rfl))) (Or.inl rfl) dX10_isRunRead_63 ?_
      refine go_iload_n hC dX10_isRunRead_66 rfl 1 rfl ?_
      obtain ⟨g_12, hf⟩ := ga_e hf
      refine go_iald hC (b_7 _) g_12 dX10_isRunRead_67 ?_
      refine go_iconst hC dX10_isRunRead_68 k1_m1 ?_
      refine go_icmp_ne hC dX10_isRunRead_69 (tgt := 74) (by decide) (fun c_32 => ?_) (fun c_32 => ?_)
      · replace hf := if_f c_32 hf
        refine go_aload_n hC dX10_isRunRead_74 rfl 0 rfl ?_
        refine go_getr hC (j := 2) (idx := 18) (nm := "yards") (ds := "[I") (b_5 _) rfl rfl hn10 (Nat.le_of_ble_eq_true rfl) rfl rfl (List.mem_cons_of_mem _ (List.mem_append_left _ (List.mem_of_getElem? (i := 3) rfl))) (Or.inl rfl) dX10_isRunRead_75 ?_
        refine go_iload_n hC dX10_isRunRead_78 rfl 1 rfl ?_
        refine go_aload_n hC dX10_isRunRead_79 rfl 0 rfl ?_
        refine go_iconst hC dX10_isRunRead_80 k1_1 ?_
        refine go_bipush hC dX10_isRunRead_81 k8_9 ?_
        obtain ⟨r_13, h_14, hc, hf⟩ := bd_e2 hf
        refine go_callV hC (c_X10_digit 1 9 h_11 h_14 r_13 hc) gX10_isRunRead_X10_digit rfl ⟨rfl, rfl⟩ 2 e_X10_digit ⟨Nat.le_of_ble_eq_true rfl, Nat.le_of_ble_eq_true rfl⟩ (b_5 _) rfl rfl (st := [.int x1, .ref 8]) (st1 := [.int r_13, .int x1, .ref 8]) rfl rfl (Nat.le_of_ble_eq_true rfl) ⟨Nat.zero_le _, Nat.zero_le _⟩ dX10_isRunRead_83 ?_
        obtain ⟨g_15, hf⟩ := ga_e hf
        obtain ⟨h_16, eh_16, hf⟩ := lt_e hf
        refine go_iast hC (b_8 _) g_15 dX10_isRunRead_86 ?_
        refine go_toph eh_16 ?_
        refine go_aload_n hC dX10_isRunRead_87 rfl 0 rfl ?_
        refine go_getr hC (j := 2) (idx := 18) (nm := "yards") (ds := "[I") (b_5 _) rfl rfl hn10 (Nat.le_of_ble_eq_true rfl) rfl rfl (List.mem_cons_of_mem _ (List.mem_append_left _ (List.mem_of_getElem? (i := 3) rfl))) (Or.inl rfl) dX10_isRunRead_88 ?_
        refine go_iload_n hC dX10_isRunRead_91 rfl 1 rfl ?_
        obtain ⟨g_17, hf⟩ := ga_e hf
        refine go_iald hC (b_8 _) g_17 dX10_isRunRead_92 ?_
        refine go_iconst hC dX10_isRunRead_93 k1_m1 ?_
        refine go_icmp_ne hC dX10_isRunRead_94 (tgt := 99) (by decide) (fun c_31 => ?_) (fun c_31 => ?_)
        · replace hf := if_f c_31 hf
          refine go_aload_n hC dX10_isRunRead_99 rfl 0 rfl ?_
          refine go_getr hC (j := 3) (idx := 21) (nm := "drilled") (ds := "[I") (b_5 _) rfl rfl hn10 (Nat.le_of_ble_eq_true rfl) rfl rfl (List.mem_cons_of_mem _ (List.mem_append_left _ (List.mem_of_getElem? (i := 4) rfl))) (Or.inl rfl) dX10_isRunRead_100 ?_
          refine go_iload_n hC dX10_isRunRead_103 rfl 1 rfl ?_
          refine go_iconst hC dX10_isRunRead_104 k1_0 ?_
          obtain ⟨g_18, hf⟩ := ga_e hf
          obtain ⟨h_19, eh_19, hf⟩ := lt_e hf
          refine go_iast hC (b_9 _) g_18 dX10_isRunRead_105 ?_
          refine go_toph eh_19 ?_
          refine go_aload_n hC dX10_isRunRead_106 rfl 0 rfl ?_
          refine go_bipush hC dX10_isRunRead_107 k8_100 ?_
          obtain ⟨r_20, h_21, hc, hf⟩ := bd_e2 hf
          refine go_callV hC (c_X10_isSign 100 h_19 h_21 r_20 hc) gX10_isRunRead_X10_isSign rfl ⟨rfl, rfl⟩ 1 e_X10_isSign ⟨Nat.le_of_ble_eq_true rfl, Nat.le_of_ble_eq_true rfl⟩ (b_5 _) rfl rfl (st := []) (st1 := [.int r_20]) rfl rfl (Nat.le_of_ble_eq_true rfl) ⟨Nat.zero_le _, Nat.zero_le _⟩ dX10_isRunRead_109 ?_
          refine go_if_eq hC dX10_isRunRead_112 (tgt := 128) (by decide) (fun c_30 => ?_) (fun c_30 => ?_)
          · replace hf := if_t c_30 hf
            refine go_aload_n hC dX10_isRunRead_128 rfl 0 rfl ?_
            refine go_getr hC (j := 3) (idx := 21) (nm := "drilled") (ds := "[I") (b_5 _) rfl rfl hn10 (Nat.le_of_ble_eq_true rfl) rfl rfl (List.mem_cons_of_mem _ (List.mem_append_left _ (List.mem_of_getElem? (i := 4) rfl))) (Or.inl rfl) dX10_isRunRead_129 ?_
            refine go_iload_n hC dX10_isRunRead_132 rfl 1 rfl ?_
            obtain ⟨g_22, hf⟩ := ga_e hf
            refine go_iald hC (b_9 _) g_22 dX10_isRunRead_133 ?_
            refine go_iconst hC dX10_isRunRead_134 k1_m1 ?_
            refine go_icmp_eq hC dX10_isRunRead_135 (tgt := 142) (by decide) (fun c_23 => ?_) (fun c_23 => ?_)
            · replace hf := if_t c_23 hf
              refine go_iconst hC dX10_isRunRead_142 k1_0 ?_
              obtain ⟨rfl, rfl⟩ := so_2 hf
              exact hret _ _ (zo_n (Or.inl rfl)) dX10_isRunRead_143
            · replace hf := if_f c_23 hf
              refine go_iconst hC dX10_isRunRead_138 k1_1 ?_
              refine go_goto hC dX10_isRunRead_139 (tgt := 143) (by decide) ?_
              obtain ⟨rfl, rfl⟩ := so_2 hf
              exact hret _ _ (zo_n (Or.inr rfl)) dX10_isRunRead_143
          · replace hf := if_f c_30 hf
            refine go_aload_n hC dX10_isRunRead_115 rfl 0 rfl ?_
            refine go_getr hC (j := 3) (idx := 21) (nm := "drilled") (ds := "[I") (b_5 _) rfl rfl hn10 (Nat.le_of_ble_eq_true rfl) rfl rfl (List.mem_cons_of_mem _ (List.mem_append_left _ (List.mem_of_getElem? (i := 4) rfl))) (Or.inl rfl) dX10_isRunRead_116 ?_
            refine go_iload_n hC dX10_isRunRead_119 rfl 1 rfl ?_
            refine go_aload_n hC dX10_isRunRead_120 rfl 0 rfl ?_
            refine go_iconst hC dX10_isRunRead_121 k1_1 ?_
            refine go_bipush hC dX10_isRunRead_122 k8_9 ?_
            obtain ⟨r_24, h_25, hc, hf⟩ := bd_e2 hf
            refine go_callV hC (c_X10_digit 1 9 h_21 h_25 r_24 hc) gX10_isRunRead_X10_digit rfl ⟨rfl, rfl⟩ 2 e_X10_digit ⟨Nat.le_of_ble_eq_true rfl, Nat.le_of_ble_eq_true rfl⟩ (b_5 _) rfl rfl (st := [.int x1, .ref 9]) (st1 := [.int r_24, .int x1, .ref 9]) rfl rfl (Nat.le_of_ble_eq_true rfl) ⟨Nat.zero_le _, Nat.zero_le _⟩ dX10_isRunRead_124 ?_
            obtain ⟨g_26, hf⟩ := ga_e hf
            obtain ⟨h_27, eh_27, hf⟩ := lt_e hf
            refine go_iast hC (b_9 _) g_26 dX10_isRunRead_127 ?_
            refine go_toph eh_27 ?_
            refine go_aload_n hC dX10_isRunRead_128 rfl 0 rfl ?_
            refine go_getr hC (j := 3) (idx := 21) (nm := "drilled") (ds := "[I") (b_5 _) rfl rfl hn10 (Nat.le_of_ble_eq_true rfl) rfl rfl (List.mem_cons_of_mem _ (List.mem_append_left _ (List.mem_of_getElem? (i := 4) rfl))) (Or.inl rfl) dX10_isRunRead_129 ?_
            refine go_iload_n hC dX10_isRunRead_132 rfl 1 rfl ?_
            obtain ⟨g_28, hf⟩ := ga_e hf
            refine go_iald hC (b_9 _) g_28 dX10_isRunRead_133 ?_
            refine go_iconst hC dX10_isRunRead_134 k1_m1 ?_
            refine go_icmp_eq hC dX10_isRunRead_135 (tgt := 142) (by decide) (fun c_29 => ?_) (fun c_29 => ?_)
            · replace hf := if_t c_29 hf
              refine go_iconst hC dX10_isRunRead_142 k1_0 ?_
              obtain ⟨rfl, rfl⟩ := so_2 hf
              exact hret _ _ (zo_n (Or.inl rfl)) dX10_isRunRead_143
            · replace hf := if_f c_29 hf
              refine go_iconst hC dX10_isRunRead_138 k1_1 ?_
              refine go_goto hC dX10_isRunRead_139 (tgt := 143) (by decide) ?_
              obtain ⟨rfl, rfl⟩ := so_2 hf
              exact hret _ _ (zo_n (Or.inr rfl)) dX10_isRunRead_143
        · replace hf := if_t c_31 hf
          refine go_iconst hC dX10_isRunRead_97 k1_0 ?_
          obtain ⟨rfl, rfl⟩ := so_2 hf
          exact hret _ _ (zo_n (Or.inl rfl)) dX10_isRunRead_98
      · replace hf := if_t c_32 hf
        refine go_iconst hC dX10_isRunRead_72 k1_0 ?_
        obtain ⟨rfl, rfl⟩ := so_2 hf
        exact hret _ _ (zo_n (Or.inl rfl)) dX10_isRunRead_73
    · replace hf := if_f c_33 hf
      refine go_iconst hC dX10_isRunRead_43 k1_0 ?_
      obtain ⟨rfl, rfl⟩ := so_2 hf
      exact hret _ _ (zo_n (Or.inl rfl)) dX10_isRunRead_44
def lb_X10_areRunsRead_2  (x1 : Int32) (h : PH) : Option ((Int32 × PH) ⊕ ((Int32 × PH) ⊕ (Int32 × PH))) :=
  if 14 ≤ x1 then (
  some (.inr (.inr (x1, h))))
  else (
  bd_2 (f_X10_isSign 59 h) fun r_11 h_12 =>
  if r_11 = 0 then (
  some (.inr (.inl ((0, h_12)))))
  else (
  bd_2 (f_X10_isRunRead x1 h_12) fun r_13 h_14 =>
  if r_13 = 0 then (
  some (.inr (.inl ((0, h_14)))))
  else (
  lt_b (ph_i h_14 5 6 (x1 + 1)) fun h_15 =>
  if (h_15.1 5 10) < (h_15.1 5 9) then (
  lt_b (x1 + 1) fun x1_16 =>
  some (.inl (x1_16, h_15)))
  else (
  some (.inr (.inl ((1, h_15))))))))
def f_X10_areRunsRead (h : PH) : Option (Int32 × PH) :=
  bd_1 (lp_f (fun s => lb_X10_areRunsRead_2  s.1 s.2) fu_l (0, h)) fun s_21 => sw_b s_21 (fun r_23 => some r_23) fun e_22 =>
  some (0, e_22.2)
set_option maxRecDepth 100000 in
set_option maxHeartbeats 4000000 in
theorem lw_X10_areRunsRead_2 {C : GC} (hC : Cx C cX10_areRunsRead 2 wsX10_areRunsRead RX10 (some .boolean) (rm_d 4))  : ∀ (n9 : Nat) (x1 : Int32) (h : PH) (y : (Int32 × PH) ⊕ (Int32 × PH)), lp_f (fun s => lb_X10_areRunsRead_2  s.1 s.2) n9 (x1, h) = some y → ∀ (hk : match y with | .inl r => (∀ (pc : Nat) (L : List (Nat × Value)), narrow .boolean (.int r.1) = .int r.1 → decode cX10_areRunsRead pc = .ok (.ireturn, 1) → Go l0_B C 0 0 pc L [.int r.1] r.2) | .inr e => Go l0_B C 0 0 53 [] [] e.2), Go l0_B C 0 0 2 [(0, .ref 5), (1, .int x1)] [] h := by
  have hn10 : ∀ w ∈ wsX100, w ∈ wsX10_areRunsRead := (fun _ hw => (List.mem_cons_of_mem _ (List.mem_append_right _ hw)))
  intro n9
  induction n9 with
  | zero =>
    intro x1 h y hlp
    cases hlp
  | succ n9 ih =>
    intro x1 h y hlp hk
    obtain ⟨k9, z, hk9, hf, hy⟩ := lp_e hlp
    cases hk9
    replace hf : lb_X10_areRunsRead_2  x1 h = some z := hf
    unfold lb_X10_areRunsRead_2 at hf
    refine go_iload_n hC dX10_areRunsRead_2 rfl 1 rfl ?_
    refine go_bipush hC dX10_areRunsRead_3 k8_14 ?_
    refine go_icmp_ge hC dX10_areRunsRead_5 (tgt := 53) (by decide) (fun c_20 => ?_) (fun c_20 => ?_)
    · replace hf := if_t c_20 hf
      obtain rfl := so_1 hf
      obtain rfl := lp_x hy
      refine go_sub [] rfl ?_
      exact hk
    · replace hf := if_f c_20 hf
      refine go_aload_n hC dX10_areRunsRead_8 rfl 0 rfl ?_
      refine go_bipush hC dX10_areRunsRead_9 k8_59 ?_
      obtain ⟨r_11, h_12, hc, hf⟩ := bd_e2 hf
      refine go_callV hC (c_X10_isSign 59 h h_12 r_11 hc) gX10_areRunsRead_X10_isSign rfl ⟨rfl, rfl⟩ 1 e_X10_isSign ⟨Nat.le_of_ble_eq_true rfl, Nat.le_of_ble_eq_true rfl⟩ (b_5 _) rfl rfl (st := []) (st1 := [.int r_11]) rfl rfl (Nat.le_of_ble_eq_true rfl) ⟨Nat.zero_le _, Nat.zero_le _⟩ dX10_areRunsRead_11 ?_
      refine go_if_eq hC dX10_areRunsRead_14 (tgt := 25) (by decide) (fun c_19 => ?_) (fun c_19 => ?_)
      · replace hf := if_t c_19 hf
        refine go_iconst hC dX10_areRunsRead_25 k1_0 ?_
        obtain rfl := so_1 hf
        obtain rfl := lp_x hy
        exact hk _ _ (zo_n (Or.inl rfl)) dX10_areRunsRead_26
      · replace hf := if_f c_19 hf
        refine go_aload_n hC dX10_areRunsRead_17 rfl 0 rfl ?_
        refine go_iload_n hC dX10_areRunsRead_18 rfl 1 rfl ?_
        obtain ⟨r_13, h_14, hc, hf⟩ := bd_e2 hf
        refine go_callV hC (c_X10_isRunRead x1 h_12 h_14 r_13 hc) gX10_areRunsRead_X10_isRunRead rfl ⟨rfl, rfl⟩ 1 e_X10_isRunRead ⟨Nat.le_of_ble_eq_true rfl, Nat.le_of_ble_eq_true rfl⟩ (b_5 _) rfl rfl (st := []) (st1 := [.int r_13]) rfl rfl (Nat.le_of_ble_eq_true rfl) ⟨Nat.zero_le _, Nat.zero_le _⟩ dX10_areRunsRead_19 ?_
        refine go_if_ne hC dX10_areRunsRead_22 (tgt := 27) (by decide) (fun c_18 => ?_) (fun c_18 => ?_)
        · replace hf := if_f c_18 hf
          refine go_aload_n hC dX10_areRunsRead_27 rfl 0 rfl ?_
          refine go_iload_n hC dX10_areRunsRead_28 rfl 1 rfl ?_
          refine go_iconst hC dX10_areRunsRead_29 k1_1 ?_
          refine go_iadd hC dX10_areRunsRead_30 ?_
          obtain ⟨h_15, eh_15, hf⟩ := lt_e hf
          refine go_puti hC tyX10 (j := 6) (idx := 37) (nm := "runs") (ds := "I") (b_5 _) rfl rfl hn10 tyX10_ok nmX10 (Nat.le_of_ble_eq_true rfl) rfl rfl (List.mem_cons_of_mem _ (List.mem_append_left _ (List.mem_append_left _ (List.mem_of_getElem? (i := 0) rfl)))) (Or.inl rfl) rfl (tyX10_ok _ (Nat.le_of_ble_eq_true rfl)) dX10_areRunsRead_31 ?_
          refine go_toph eh_15 ?_
          refine go_aload_n hC dX10_areRunsRead_34 rfl 0 rfl ?_
          refine go_geti hC (j := 10) (idx := 34) (nm := "at") (ds := "I") (b_5 _) rfl rfl hn10 (Nat.le_of_ble_eq_true rfl) rfl rfl (List.mem_cons_of_mem _ (List.mem_append_left _ (List.mem_append_left _ (List.mem_of_getElem? (i := 1) rfl)))) (Or.inl rfl) dX10_areRunsRead_35 ?_
          refine go_aload_n hC dX10_areRunsRead_38 rfl 0 rfl ?_
          refine go_geti hC (j := 9) (idx := 31) (nm := "end") (ds := "I") (b_5 _) rfl rfl hn10 (Nat.le_of_ble_eq_true rfl) rfl rfl (List.mem_cons_of_mem _ (List.mem_append_left _ (List.mem_append_left _ (List.mem_of_getElem? (i := 2) rfl)))) (Or.inl rfl) dX10_areRunsRead_39 ?_
          refine go_icmp_lt hC dX10_areRunsRead_42 (tgt := 47) (by decide) (fun c_17 => ?_) (fun c_17 => ?_)
          · replace hf := if_t c_17 hf
            obtain ⟨x1_16, ex1_16, hf⟩ := lt_e hf
            refine go_iinc hC dX10_areRunsRead_47 1 rfl k1_1 ex1_16 (Nat.le_of_ble_eq_true rfl) rfl ?_
            refine go_goto hC dX10_areRunsRead_50 (tgt := 2) (by decide) ?_
            obtain rfl := so_1 hf
            refine go_sub [1, 0] rfl ?_
            exact ih x1_16 h_15 _ (lp_c hy) hk
          · replace hf := if_f c_17 hf
            refine go_iconst hC dX10_areRunsRead_45 k1_1 ?_
            obtain rfl := so_1 hf
            obtain rfl := lp_x hy
            exact hk _ _ (zo_n (Or.inr rfl)) dX10_areRunsRead_46
        · replace hf := if_t c_18 hf
          refine go_iconst hC dX10_areRunsRead_25 k1_0 ?_
          obtain rfl := so_1 hf
          obtain rfl := lp_x hy
          exact hk _ _ (zo_n (Or.inl rfl)) dX10_areRunsRead_26
theorem e_X10_areRunsRead : yX10_areRunsRead.cls = RX10 ∧ yX10_areRunsRead.cls ≠ "java/lang/invoke/MethodHandle" ∧ yX10_areRunsRead.cls ≠ "java/lang/invoke/VarHandle" ∧ (parseMethodDescriptor yX10_areRunsRead.desc).map (fun d => d.parameters.length) = some 0 := by decide +kernel
set_option maxRecDepth 100000 in
set_option maxHeartbeats 4000000 in
theorem c_X10_areRunsRead (h : PH) (h2 : PH) (r : Int32) (hf : f_X10_areRunsRead h = some (r, h2)) : Con yX10_areRunsRead wsX10_areRunsRead (rm_d 4) l0_B [.ref 5] h (some (.int r)) h2 := by
  have hn10 : ∀ w ∈ wsX100, w ∈ wsX10_areRunsRead := (fun _ hw => (List.mem_cons_of_mem _ (List.mem_append_right _ hw)))
  refine con_i (ty := .boolean) (cc := cX10_areRunsRead) (nL := 2) (by decide) rfl (Nat.le_of_ble_eq_true rfl) ?_
  intro C hC hret
  change Go l0_B C 0 0 0 [(0, .ref 5)] [] h
  unfold f_X10_areRunsRead at hf
  refine go_iconst hC dX10_areRunsRead_0 k1_0 ?_
  refine go_istore_n hC dX10_areRunsRead_1 rfl (Nat.le_of_ble_eq_true rfl) rfl ?_
  obtain ⟨s_21, hl, hf⟩ := bd_e1 hf
  refine go_sub [1, 0] rfl ?_
  refine lw_X10_areRunsRead_2 hC  _ 0 h s_21 hl ?_
  rcases s_21 with r_23 | e_22
  · replace hf : some r_23 = some _ := hf
    cases hf
    exact hret
  · replace hf := sw_r hf
    refine go_iconst hC dX10_areRunsRead_53 k1_0 ?_
    obtain ⟨rfl, rfl⟩ := so_2 hf
    exact hret _ _ (zo_n (Or.inl rfl)) dX10_areRunsRead_54
def f_X10_isRead (x2 : Int32) (x3 : Int32) (h : PH) : Option (Int32 × PH) :=
  lt_b (ph_i h 5 7 1) fun h_1 =>
  lt_b (ph_i h_1 5 8 x2) fun h_2 =>
  lt_b (ph_i h_2 5 9 (x2 + x3)) fun h_3 =>
  lt_b (ph_i h_3 5 10 x2) fun h_4 =>
  lt_b (ph_i h_4 5 6 0) fun h_5 =>
  bd_2 (f_X10_isHeadRead h_5) fun r_6 h_7 =>
  if r_6 = 0 then (
  some (0, h_7))
  else (
  bd_2 (f_X10_areRunsRead h_7) fun r_8 h_9 =>
  if r_8 = 0 then (
  some (0, h_9))
  else (
  some (1, h_9)))
theorem e_X10_isRead : yX10_isRead.cls = RX10 ∧ yX10_isRead.cls ≠ "java/lang/invoke/MethodHandle" ∧ yX10_isRead.cls ≠ "java/lang/invoke/VarHandle" ∧ (parseMethodDescriptor yX10_isRead.desc).map (fun d => d.parameters.length) = some 3 := by decide +kernel
set_option maxRecDepth 100000 in
set_option maxHeartbeats 4000000 in
theorem c_X10_isRead (x2 : Int32) (x3 : Int32) (h : PH) (h2 : PH) (r : Int32) (hf : f_X10_isRead x2 x3 h = some (r, h2)) : Con yX10_isRead wsX10_isRead (rm_d 5) l0_B [.ref 5, .ref 4, .int x2, .int x3] h (some (.int r)) h2 := by
  have hn10 : ∀ w ∈ wsX100, w ∈ wsX10_isRead := (fun _ hw => (List.mem_cons_of_mem _ (List.mem_append_right _ hw)))
  refine con_i (ty := .boolean) (cc := cX10_isRead) (nL := 4) (by decide) rfl (Nat.le_of_ble_eq_true rfl) ?_
  intro C hC hret
  change Go l0_B C 0 0 0 [(0, .ref 5), (1, .ref 4), (2, .int x2), (3, .int x3)] [] h
  unfold f_X10_isRead at hf
  refine go_aload_n hC dX10_isRead_0 rfl 0 rfl ?_
  refine go_aload_n hC dX10_isRead_1 rfl 1 rfl ?_
  obtain ⟨h_1, eh_1, hf⟩ := lt_e hf
  refine go_putq hC tyX10 (j := 7) (idx := 24) (nm := "codes") (ds := "[I") (b_5 _) rfl rfl hn10 tyX10_ok nmX10 (Nat.le_of_ble_eq_true rfl) rfl rfl (List.mem_cons_of_mem _ (List.mem_append_left _ (List.mem_append_left _ (List.mem_of_getElem? (i := 0) rfl)))) (Or.inl rfl) rfl (tyX10_ok _ (Nat.le_of_ble_eq_true rfl)) (fun _ => ⟨rfl, rfl⟩) dX10_isRead_2 ?_
  refine go_toph eh_1 ?_
  refine go_aload_n hC dX10_isRead_5 rfl 0 rfl ?_
  refine go_iload_n hC dX10_isRead_6 rfl 2 rfl ?_
  obtain ⟨h_2, eh_2, hf⟩ := lt_e hf
  refine go_puti hC tyX10 (j := 8) (idx := 27) (nm := "begin") (ds := "I") (b_5 _) rfl rfl hn10 tyX10_ok nmX10 (Nat.le_of_ble_eq_true rfl) rfl rfl (List.mem_cons_of_mem _ (List.mem_append_left _ (List.mem_append_left _ (List.mem_of_getElem? (i := 1) rfl)))) (Or.inl rfl) rfl (tyX10_ok _ (Nat.le_of_ble_eq_true rfl)) dX10_isRead_7 ?_
  refine go_toph eh_2 ?_
  refine go_aload_n hC dX10_isRead_10 rfl 0 rfl ?_
  refine go_iload_n hC dX10_isRead_11 rfl 2 rfl ?_
  refine go_iload_n hC dX10_isRead_12 rfl 3 rfl ?_
  refine go_iadd hC dX10_isRead_13 ?_
  obtain ⟨h_3, eh_3, hf⟩ := lt_e hf
  refine go_puti hC tyX10 (j := 9) (idx := 31) (nm := "end") (ds := "I") (b_5 _) rfl rfl hn10 tyX10_ok nmX10 (Nat.le_of_ble_eq_true rfl) rfl rfl (List.mem_cons_of_mem _ (List.mem_append_left _ (List.mem_append_left _ (List.mem_of_getElem? (i := 2) rfl)))) (Or.inl rfl) rfl (tyX10_ok _ (Nat.le_of_ble_eq_true rfl)) dX10_isRead_14 ?_
  refine go_toph eh_3 ?_
  refine go_aload_n hC dX10_isRead_17 rfl 0 rfl ?_
  refine go_iload_n hC dX10_isRead_18 rfl 2 rfl ?_
  obtain ⟨h_4, eh_4, hf⟩ := lt_e hf
  refine go_puti hC tyX10 (j := 10) (idx := 34) (nm := "at") (ds := "I") (b_5 _) rfl rfl hn10 tyX10_ok nmX10 (Nat.le_of_ble_eq_true rfl) rfl rfl (List.mem_cons_of_mem _ (List.mem_append_left _ (List.mem_append_left _ (List.mem_of_getElem? (i := 3) rfl)))) (Or.inl rfl) rfl (tyX10_ok _ (Nat.le_of_ble_eq_true rfl)) dX10_isRead_19 ?_
  refine go_toph eh_4 ?_
  refine go_aload_n hC dX10_isRead_22 rfl 0 rfl ?_
  refine go_iconst hC dX10_isRead_23 k1_0 ?_
  obtain ⟨h_5, eh_5, hf⟩ := lt_e hf
  refine go_puti hC tyX10 (j := 6) (idx := 37) (nm := "runs") (ds := "I") (b_5 _) rfl rfl hn10 tyX10_ok nmX10 (Nat.le_of_ble_eq_true rfl) rfl rfl (List.mem_cons_of_mem _ (List.mem_append_left _ (List.mem_append_left _ (List.mem_of_getElem? (i := 4) rfl)))) (Or.inl rfl) rfl (tyX10_ok _ (Nat.le_of_ble_eq_true rfl)) dX10_isRead_24 ?_
  refine go_toph eh_5 ?_
  refine go_aload_n hC dX10_isRead_27 rfl 0 rfl ?_
  obtain ⟨r_6, h_7, hc, hf⟩ := bd_e2 hf
  refine go_callV hC (c_X10_isHeadRead h_5 h_7 r_6 hc) gX10_isRead_X10_isHeadRead rfl ⟨rfl, rfl⟩ 0 e_X10_isHeadRead ⟨Nat.le_of_ble_eq_true rfl, Nat.le_of_ble_eq_true rfl⟩ (b_5 _) rfl rfl (st := []) (st1 := [.int r_6]) rfl rfl (Nat.le_of_ble_eq_true rfl) ⟨Nat.zero_le _, Nat.zero_le _⟩ dX10_isRead_28 ?_
  refine go_if_eq hC dX10_isRead_31 (tgt := 45) (by decide) (fun c_11 => ?_) (fun c_11 => ?_)
  · replace hf := if_t c_11 hf
    refine go_iconst hC dX10_isRead_45 k1_0 ?_
    obtain ⟨rfl, rfl⟩ := so_2 hf
    exact hret _ _ (zo_n (Or.inl rfl)) dX10_isRead_46
  · replace hf := if_f c_11 hf
    refine go_aload_n hC dX10_isRead_34 rfl 0 rfl ?_
    obtain ⟨r_8, h_9, hc, hf⟩ := bd_e2 hf
    refine go_callV hC (c_X10_areRunsRead h_7 h_9 r_8 hc) gX10_isRead_X10_areRunsRead rfl ⟨rfl, rfl⟩ 0 e_X10_areRunsRead ⟨Nat.le_of_ble_eq_true rfl, Nat.le_of_ble_eq_true rfl⟩ (b_5 _) rfl rfl (st := []) (st1 := [.int r_8]) rfl rfl (Nat.le_of_ble_eq_true rfl) ⟨Nat.zero_le _, Nat.zero_le _⟩ dX10_isRead_35 ?_
    refine go_if_eq hC dX10_isRead_38 (tgt := 45) (by decide) (fun c_10 => ?_) (fun c_10 => ?_)
    · replace hf := if_t c_10 hf
      refine go_iconst hC dX10_isRead_45 k1_0 ?_
      obtain ⟨rfl, rfl⟩ := so_2 hf
      exact hret _ _ (zo_n (Or.inl rfl)) dX10_isRead_46
    · replace hf := if_f c_10 hf
      refine go_iconst hC dX10_isRead_41 k1_1 ?_
      refine go_goto hC dX10_isRead_42 (tgt := 46) (by decide) ?_
      obtain ⟨rfl, rfl⟩ := so_2 hf
      exact hret _ _ (zo_n (Or.inr rfl)) dX10_isRead_46
def f_X10_firstFault (h : PH) : Option (Int32) :=
  some ((h.1 5 10) - (h.1 5 8))
theorem e_X10_firstFault : yX10_firstFault.cls = RX10 ∧ yX10_firstFault.cls ≠ "java/lang/invoke/MethodHandle" ∧ yX10_firstFault.cls ≠ "java/lang/invoke/VarHandle" ∧ (parseMethodDescriptor yX10_firstFault.desc).map (fun d => d.parameters.length) = some 0 := by decide +kernel
set_option maxRecDepth 100000 in
set_option maxHeartbeats 4000000 in
theorem c_X10_firstFault (h : PH) (r : Int32) (hf : f_X10_firstFault h = some r) : Con yX10_firstFault wsX10_firstFault (rm_d 0) l0_B [.ref 5] h (some (.int r)) h := by
  have hn10 : ∀ w ∈ wsX100, w ∈ wsX10_firstFault := (fun _ hw => (List.mem_cons_of_mem _ (List.mem_append_right _ hw)))
  refine con_i (ty := .int) (cc := cX10_firstFault) (nL := 1) (by decide) rfl (Nat.le_of_ble_eq_true rfl) ?_
  intro C hC hret
  change Go l0_B C 0 0 0 [(0, .ref 5)] [] h
  unfold f_X10_firstFault at hf
  refine go_aload_n hC dX10_firstFault_0 rfl 0 rfl ?_
  refine go_geti hC (j := 10) (idx := 34) (nm := "at") (ds := "I") (b_5 _) rfl rfl hn10 (Nat.le_of_ble_eq_true rfl) rfl rfl (List.mem_cons_of_mem _ (List.mem_append_left _ (List.mem_of_getElem? (i := 0) rfl))) (Or.inl rfl) dX10_firstFault_1 ?_
  refine go_aload_n hC dX10_firstFault_4 rfl 0 rfl ?_
  refine go_geti hC (j := 8) (idx := 27) (nm := "begin") (ds := "I") (b_5 _) rfl rfl hn10 (Nat.le_of_ble_eq_true rfl) rfl rfl (List.mem_cons_of_mem _ (List.mem_append_left _ (List.mem_of_getElem? (i := 1) rfl))) (Or.inl rfl) dX10_firstFault_5 ?_
  refine go_isub hC dX10_firstFault_8 ?_
  obtain rfl := so_1 hf
  exact hret _ _ rfl dX10_firstFault_9
