def f_X2_keepIfFewer (x1 : Int32) (h : PH) : Option (Unit × PH) :=
  if (h.1 34 2) ≤ x1 then (
  some ((), h))
  else (
  lt_b (ph_i h 34 2 x1) fun h_1 =>
  gc_y 0 0 4 4 4 (
  lt_b (ph_r h_1 35 (va_cpy (h_1.1 36) (h_1.1 35) (0 : Int32).toNatClampNeg (0 : Int32).toNatClampNeg (4 : Int32).toNatClampNeg)) fun h_2 =>
  some ((), h_2)))
theorem e_X2_keepIfFewer : yX2_keepIfFewer.cls = RX2 ∧ yX2_keepIfFewer.cls ≠ "java/lang/invoke/MethodHandle" ∧ yX2_keepIfFewer.cls ≠ "java/lang/invoke/VarHandle" ∧ (parseMethodDescriptor yX2_keepIfFewer.desc).map (fun d => d.parameters.length) = some 1 := by decide +kernel
set_option maxRecDepth 100000 in
set_option maxHeartbeats 4000000 in
theorem c_X2_keepIfFewer (x1 : Int32) (h : PH) (h2 : PH) (hf : f_X2_keepIfFewer x1 h = some ((), h2)) : Con yX2_keepIfFewer wsX2_keepIfFewer (rm_d 1) l0_B [.ref 34, .int x1] h none h2 := by
  have hn2 : ∀ w ∈ wsX20, w ∈ wsX2_keepIfFewer := (fun _ hw => (List.mem_cons_of_mem _ (List.mem_append_right _ hw)))
  refine con_v (cc := cX2_keepIfFewer) (nL := 2) (by decide) rfl (Nat.le_of_ble_eq_true rfl) ?_
  intro C hC hret
  change Go l0_B C 0 0 0 [(0, .ref 34), (1, .int x1)] [] h
  unfold f_X2_keepIfFewer at hf
  refine go_iload_n hC dX2_keepIfFewer_0 rfl 1 rfl ?_
  refine go_aload_n hC dX2_keepIfFewer_1 rfl 0 rfl ?_
  refine go_geti hC (j := 2) (idx := 19) (nm := "fewest") (ds := "I") (b_34 _) rfl rfl hn2 (Nat.le_of_ble_eq_true rfl) rfl rfl (List.mem_cons_of_mem _ (List.mem_append_left _ (List.mem_of_getElem? (i := 0) rfl))) (Or.inl rfl) dX2_keepIfFewer_2 ?_
  refine go_icmp_ge hC dX2_keepIfFewer_5 (tgt := 27) (by decide) (fun c_8 => ?_) (fun c_8 => ?_)
  · replace hf := if_t c_8 hf
    obtain ⟨-, rfl⟩ := so_2 hf
    exact hret _ _ dX2_keepIfFewer_27
  · replace hf := if_f c_8 hf
    refine go_aload_n hC dX2_keepIfFewer_8 rfl 0 rfl ?_
    refine go_iload_n hC dX2_keepIfFewer_9 rfl 1 rfl ?_
    obtain ⟨h_1, eh_1, hf⟩ := lt_e hf
    refine go_puti hC tyX2 (j := 2) (idx := 19) (nm := "fewest") (ds := "I") (b_34 _) rfl rfl hn2 tyX2_ok nmX2 (Nat.le_of_ble_eq_true rfl) rfl rfl (List.mem_cons_of_mem _ (List.mem_append_left _ (List.mem_of_getElem? (i := 0) rfl))) (Or.inl rfl) rfl (tyX2_ok _ (Nat.le_of_ble_eq_true rfl)) dX2_keepIfFewer_10 ?_
    refine go_toph eh_1 ?_
    refine go_aload_n hC dX2_keepIfFewer_13 rfl 0 rfl ?_
    refine go_getr hC (j := 1) (idx := 15) (nm := "row") (ds := "[I") (b_34 _) rfl rfl hn2 (Nat.le_of_ble_eq_true rfl) rfl rfl (List.mem_cons_of_mem _ (List.mem_append_left _ (List.mem_of_getElem? (i := 1) rfl))) (Or.inl rfl) dX2_keepIfFewer_14 ?_
    refine go_iconst hC dX2_keepIfFewer_17 k1_0 ?_
    refine go_aload_n hC dX2_keepIfFewer_18 rfl 0 rfl ?_
    refine go_getr hC (j := 0) (idx := 9) (nm := "firstRow") (ds := "[I") (b_34 _) rfl rfl hn2 (Nat.le_of_ble_eq_true rfl) rfl rfl (List.mem_cons_of_mem _ (List.mem_append_left _ (List.mem_of_getElem? (i := 2) rfl))) (Or.inl rfl) dX2_keepIfFewer_19 ?_
    refine go_iconst hC dX2_keepIfFewer_22 k1_0 ?_
    refine go_iconst hC dX2_keepIfFewer_23 k1_4 ?_
    obtain ⟨⟨g_3, g_4, g_5, g_6, g_7⟩, hf⟩ := gc_e hf
    obtain ⟨h_2, eh_2, hf⟩ := lt_e hf
    refine go_copy hC (b_36 _) (b_35 _) (List.mem_cons_of_mem _ (List.mem_append_left _ (List.mem_of_getElem? (i := 3) rfl))) (List.mem_cons_of_mem _ (List.mem_append_left _ (List.mem_of_getElem? (i := 4) rfl))) (List.mem_cons_of_mem _ (List.mem_append_left _ (List.mem_of_getElem? (i := 5) rfl))) (List.mem_cons_of_mem _ (List.mem_append_left _ (List.mem_of_getElem? (i := 6) rfl))) g_3 g_4 g_5 g_6 g_7 ⟨Nat.le_of_ble_eq_true rfl, Nat.le_of_ble_eq_true rfl⟩ dX2_keepIfFewer_24 ?_
    refine go_toph eh_2 ?_
    obtain ⟨-, rfl⟩ := so_2 hf
    exact hret _ _ dX2_keepIfFewer_27
def lb_X2_extend_34 (rec : Int32 → Int32 → Int32 → Int32 → PH → Option (Unit × PH)) (x2 : Int32) (x3 : Int32) (x4 : Int32) (x5 : Int32) (x6 : Int32) (h : PH) : Option ((Int32 × PH) ⊕ (Int32 × PH)) :=
  if (h.1 10 0) ≤ x6 then (
  some (.inr (x6, h)))
  else (
  if 4 ≤ x4 then (
  some (.inr (x6, h)))
  else (
  if ((x3 >>> (x6 &&& 31)) &&& 1) = 0 then (
  lt_b (x6 + 1) fun x6_20 =>
  some (.inl (x6_20, h)))
  else (
  if x4 = 0 then (
  bd_1 (f_X3_yardsFrom (h.1 10 1) x6 h) fun r_29 =>
  ga_i x4 4 (
  lt_b (ph_i h 36 x4.toNatClampNeg x6) fun h_31 =>
  bd_2 (rec x2 (x3 &&& (((1 : Int32) <<< (x6 &&& 31)) ^^^ (-1))) (x4 + 1) (x5 + r_29) h_31) fun r_32 h_33 =>
  lt_b (x6 + 1) fun x6_34 =>
  some (.inl (x6_34, h_33))))
  else (
  ga_i (x4 - 1) 4 (
  bd_1 (f_X3_yardsFrom (h.1 36 (x4 - 1).toNatClampNeg) x6 h) fun r_22 =>
  lt_b (2 * r_22) fun x7_23 =>
  ga_i x4 4 (
  lt_b (ph_i h 36 x4.toNatClampNeg x6) fun h_25 =>
  bd_2 (rec x2 (x3 &&& (((1 : Int32) <<< (x6 &&& 31)) ^^^ (-1))) (x4 + 1) (x5 + x7_23) h_25) fun r_26 h_27 =>
  lt_b (x6 + 1) fun x6_28 =>
  some (.inl (x6_28, h_27))))))))
def f_X2_extend : Nat → Int32 → Int32 → Int32 → Int32 → PH → Option (Unit × PH)
  | 0, _, _, _, _, _ => none
  | n0 + 1, x2, x3, x4, x5, h =>
    if x4 ≤ 0 then (
    bd_1 (lp_f (fun s => lb_X2_extend_34 (f_X2_extend n0) x2 x3 x4 x5 s.1 s.2) fu_l (0, h)) fun s_39 =>
    some ((), s_39.2))
    else (
    if x3 = 0 then (
    ga_i (x4 - 1) 4 (
    bd_1 (f_X3_yardsFrom (h.1 36 (x4 - 1).toNatClampNeg) x2 h) fun r_42 =>
    bd_2 (f_X2_keepIfFewer (x5 + r_42) h) fun r_43 h_44 =>
    some ((), h_44)))
    else (
    bd_1 (lp_f (fun s => lb_X2_extend_34 (f_X2_extend n0) x2 x3 x4 x5 s.1 s.2) fu_l (0, h)) fun s_40 =>
    some ((), s_40.2)))
theorem e_X2_extend : yX2_extend.cls = RX2 ∧ yX2_extend.cls ≠ "java/lang/invoke/MethodHandle" ∧ yX2_extend.cls ≠ "java/lang/invoke/VarHandle" ∧ (parseMethodDescriptor yX2_extend.desc).map (fun d => d.parameters.length) = some 5 := by decide +kernel
set_option maxRecDepth 100000 in
set_option maxHeartbeats 4000000 in
theorem lw_X2_extend_34 {C : GC} {n0 : Nat} (rec : Int32 → Int32 → Int32 → Int32 → PH → Option (Unit × PH)) (hrec : ∀ (y0 : Int32) (y1 : Int32) (y2 : Int32) (y3 : Int32) (h h2 : PH), rec y0 y1 y2 y3 h = some ((), h2) → Con yX2_extend wsX2_extend (rm_d (2 + n0)) l0_B [.ref 34, .ref 10, .int y0, .int y1, .int y2, .int y3] h none h2) (hC : Cx C cX2_extend 8 wsX2_extend RX2 none (rm_d (2 + (n0 + 1)))) (x2 : Int32) (x3 : Int32) (x4 : Int32) (x5 : Int32) : ∀ (n9 : Nat) (x6 : Int32) (h : PH) (y : Int32 × PH), lp_f (fun s => lb_X2_extend_34 rec x2 x3 x4 x5 s.1 s.2) n9 (x6, h) = some y → ∀ (hk : Go l0_B C 0 0 133 [] [] y.2), Go l0_B C 0 0 34 [(0, .ref 34), (1, .ref 10), (2, .int x2), (3, .int x3), (4, .int x4), (5, .int x5), (6, .int x6)] [] h := by
  have hn2 : ∀ w ∈ wsX20, w ∈ wsX2_extend := (fun _ hw => (List.mem_cons_of_mem _ (List.mem_append_left _ (List.mem_append_right _ hw))))
  have hn3 : ∀ w ∈ wsX30, w ∈ wsX2_extend := (fun _ hw => (List.mem_cons_of_mem _ (List.mem_append_right _ hw)))
  intro n9
  induction n9 with
  | zero =>
    intro x6 h y hlp
    cases hlp
  | succ n9 ih =>
    intro x6 h y hlp hk
    obtain ⟨k9, z, hk9, hf, hy⟩ := lp_e hlp
    cases hk9
    replace hf : lb_X2_extend_34 rec x2 x3 x4 x5 x6 h = some z := hf
    unfold lb_X2_extend_34 at hf
    refine go_iload hC dX2_extend_34 6 rfl ?_
    refine go_aload_n hC dX2_extend_36 rfl 1 rfl ?_
    refine go_geti hC (j := 0) (idx := 40) (nm := "places") (ds := "I") (b_10 _) rfl rfl hn3 (Nat.le_of_ble_eq_true rfl) rfl rfl (List.mem_cons_of_mem _ (List.mem_append_left _ (List.mem_append_left _ (List.mem_of_getElem? (i := 1) rfl)))) (Or.inl rfl) dX2_extend_37 ?_
    refine go_icmp_ge hC dX2_extend_40 (tgt := 133) (by decide) (fun c_38 => ?_) (fun c_38 => ?_)
    · replace hf := if_t c_38 hf
      obtain rfl := so_1 hf
      obtain rfl := lp_x hy
      refine go_sub [] rfl ?_
      exact hk
    · replace hf := if_f c_38 hf
      refine go_iload hC dX2_extend_43 4 rfl ?_
      refine go_iconst hC dX2_extend_45 k1_4 ?_
      refine go_icmp_ge hC dX2_extend_46 (tgt := 133) (by decide) (fun c_37 => ?_) (fun c_37 => ?_)
      · replace hf := if_t c_37 hf
        obtain rfl := so_1 hf
        obtain rfl := lp_x hy
        refine go_sub [] rfl ?_
        exact hk
      · replace hf := if_f c_37 hf
        refine go_iload_n hC dX2_extend_49 rfl 3 rfl ?_
        refine go_iload hC dX2_extend_50 6 rfl ?_
        refine go_ishr hC dX2_extend_52 ?_
        refine go_iconst hC dX2_extend_53 k1_1 ?_
        refine go_iand hC dX2_extend_54 ?_
        refine go_if_eq hC dX2_extend_55 (tgt := 127) (by decide) (fun c_36 => ?_) (fun c_36 => ?_)
        · replace hf := if_t c_36 hf
          obtain ⟨x6_20, ex6_20, hf⟩ := lt_e hf
          refine go_iinc hC dX2_extend_127 6 rfl k1_1 ex6_20 (Nat.le_of_ble_eq_true rfl) rfl ?_
          refine go_goto hC dX2_extend_130 (tgt := 34) (by decide) ?_
          obtain rfl := so_1 hf
          refine go_sub [1, 2, 3, 4, 5, 6, 0] rfl ?_
          exact ih x6_20 h _ (lp_c hy) hk
        · replace hf := if_f c_36 hf
          refine go_iload hC dX2_extend_58 4 rfl ?_
          refine go_if_ne hC dX2_extend_60 (tgt := 76) (by decide) (fun c_35 => ?_) (fun c_35 => ?_)
          · replace hf := if_f c_35 hf
            refine go_iconst hC dX2_extend_76 k1_2 ?_
            refine go_aload_n hC dX2_extend_77 rfl 1 rfl ?_
            refine go_aload_n hC dX2_extend_78 rfl 0 rfl ?_
            refine go_getr hC (j := 1) (idx := 15) (nm := "row") (ds := "[I") (b_34 _) rfl rfl hn2 (Nat.le_of_ble_eq_true rfl) rfl rfl (List.mem_cons_of_mem _ (List.mem_append_left _ (List.mem_append_left _ (List.mem_of_getElem? (i := 0) rfl)))) (Or.inl rfl) dX2_extend_79 ?_
            refine go_iload hC dX2_extend_82 4 rfl ?_
            refine go_iconst hC dX2_extend_84 k1_1 ?_
            refine go_isub hC dX2_extend_85 ?_
            obtain ⟨g_21, hf⟩ := ga_e hf
            refine go_iald hC (b_36 _) g_21 dX2_extend_86 ?_
            refine go_iload hC dX2_extend_87 6 rfl ?_
            obtain ⟨r_22, hc, hf⟩ := bd_e1 hf
            refine go_callV hC (c_X3_yardsFrom (h.1 36 (x4 - 1).toNatClampNeg) x6 h r_22 hc) gX2_extend_X3_yardsFrom rfl ⟨rfl, rfl⟩ 2 e_X3_yardsFrom ⟨by simp only [rm_d]; omega, by simp only [rm_d]; omega⟩ (b_10 _) rfl rfl (st := [.int 2]) (st1 := [.int r_22, .int 2]) rfl rfl (Nat.le_of_ble_eq_true rfl) ⟨Nat.zero_le _, Nat.zero_le _⟩ dX2_extend_89 ?_
            refine go_imul hC dX2_extend_92 ?_
            obtain ⟨x7_23, ex7_23, hf⟩ := lt_e hf
            refine go_topi ex7_23 ?_
            refine go_istore hC dX2_extend_93 (Nat.le_of_ble_eq_true rfl) rfl ?_
            refine go_aload_n hC dX2_extend_95 rfl 1 rfl ?_
            refine go_getr hC (j := 1) (idx := 15) (nm := "row") (ds := "[I") (b_34 _) rfl rfl hn2 (Nat.le_of_ble_eq_true rfl) rfl rfl (List.mem_cons_of_mem _ (List.mem_append_left _ (List.mem_append_left _ (List.mem_of_getElem? (i := 0) rfl)))) (Or.inl rfl) dX2_extend_96 ?_
            refine go_iload hC dX2_extend_99 5 rfl ?_
            refine go_iload hC dX2_extend_101 7 rfl ?_
            obtain ⟨g_24, hf⟩ := ga_e hf
            obtain ⟨h_25, eh_25, hf⟩ := lt_e hf
            refine go_iast hC (b_36 _) g_24 dX2_extend_103 ?_
            refine go_toph eh_25 ?_
            refine go_aload_n hC dX2_extend_104 rfl 1 rfl ?_
            refine go_aload_n hC dX2_extend_105 rfl 2 rfl ?_
            refine go_iload_n hC dX2_extend_106 rfl 3 rfl ?_
            refine go_iload_n hC dX2_extend_107 rfl 4 rfl ?_
            refine go_iconst hC dX2_extend_108 k1_1 ?_
            refine go_iload hC dX2_extend_109 7 rfl ?_
            refine go_ishl hC dX2_extend_111 ?_
            refine go_iconst hC dX2_extend_112 k1_m1 ?_
            refine go_ixor hC dX2_extend_113 ?_
            refine go_iand hC dX2_extend_114 ?_
            refine go_iload hC dX2_extend_115 5 rfl ?_
            refine go_iconst hC dX2_extend_117 k1_1 ?_
            refine go_iadd hC dX2_extend_118 ?_
            refine go_iload hC dX2_extend_119 6 rfl ?_
            refine go_iload hC dX2_extend_121 0 rfl ?_
            refine go_iadd hC dX2_extend_123 ?_
            obtain ⟨r_26, h_27, hc, hf⟩ := bd_e2 hf
            refine go_callV hC (hrec x2 (x3 &&& (((1 : Int32) <<< (x6 &&& 31)) ^^^ (-1))) (x4 + 1) (x5 + x7_23) h_25 h_27 hc) gX2_extend_X2_extend rfl ⟨rfl, rfl⟩ 5 e_X2_extend ⟨by simp only [rm_d]; omega, by simp only [rm_d]; omega⟩ (b_34 _) rfl rfl (st := []) (st1 := []) rfl rfl (Nat.le_of_ble_eq_true rfl) ⟨Nat.zero_le _, Nat.zero_le _⟩ dX2_extend_124 ?_
            obtain ⟨x6_28, ex6_28, hf⟩ := lt_e hf
            refine go_iinc hC dX2_extend_127 7 rfl k1_1 ex6_28 (Nat.le_of_ble_eq_true rfl) rfl ?_
            refine go_goto hC dX2_extend_130 (tgt := 34) (by decide) ?_
            obtain rfl := so_1 hf
            refine go_sub [2, 3, 4, 5, 6, 7, 0] rfl ?_
            exact ih x6_28 h_27 _ (lp_c hy) hk
          · replace hf := if_t c_35 hf
            refine go_aload_n hC dX2_extend_63 rfl 1 rfl ?_
            refine go_aload_n hC dX2_extend_64 rfl 1 rfl ?_
            refine go_geti hC (j := 1) (idx := 23) (nm := "boxPlace") (ds := "I") (b_10 _) rfl rfl hn3 (Nat.le_of_ble_eq_true rfl) rfl rfl (List.mem_cons_of_mem _ (List.mem_append_left _ (List.mem_append_left _ (List.mem_of_getElem? (i := 2) rfl)))) (Or.inl rfl) dX2_extend_65 ?_
            refine go_iload hC dX2_extend_68 6 rfl ?_
            obtain ⟨r_29, hc, hf⟩ := bd_e1 hf
            refine go_callV hC (c_X3_yardsFrom (h.1 10 1) x6 h r_29 hc) gX2_extend_X3_yardsFrom rfl ⟨rfl, rfl⟩ 2 e_X3_yardsFrom ⟨by simp only [rm_d]; omega, by simp only [rm_d]; omega⟩ (b_10 _) rfl rfl (st := []) (st1 := [.int r_29]) rfl rfl (Nat.le_of_ble_eq_true rfl) ⟨Nat.zero_le _, Nat.zero_le _⟩ dX2_extend_70 ?_
            refine go_goto hC dX2_extend_73 (tgt := 93) (by decide) ?_
            refine go_istore hC dX2_extend_93 (Nat.le_of_ble_eq_true rfl) rfl ?_
            refine go_aload_n hC dX2_extend_95 rfl 1 rfl ?_
            refine go_getr hC (j := 1) (idx := 15) (nm := "row") (ds := "[I") (b_34 _) rfl rfl hn2 (Nat.le_of_ble_eq_true rfl) rfl rfl (List.mem_cons_of_mem _ (List.mem_append_left _ (List.mem_append_left _ (List.mem_of_getElem? (i := 0) rfl)))) (Or.inl rfl) dX2_extend_96 ?_
            refine go_iload hC dX2_extend_99 5 rfl ?_
            refine go_iload hC dX2_extend_101 7 rfl ?_
            obtain ⟨g_30, hf⟩ := ga_e hf
            obtain ⟨h_31, eh_31, hf⟩ := lt_e hf
            refine go_iast hC (b_36 _) g_30 dX2_extend_103 ?_
            refine go_toph eh_31 ?_
            refine go_aload_n hC dX2_extend_104 rfl 1 rfl ?_
            refine go_aload_n hC dX2_extend_105 rfl 2 rfl ?_
            refine go_iload_n hC dX2_extend_106 rfl 3 rfl ?_
            refine go_iload_n hC dX2_extend_107 rfl 4 rfl ?_
            refine go_iconst hC dX2_extend_108 k1_1 ?_
            refine go_iload hC dX2_extend_109 7 rfl ?_
            refine go_ishl hC dX2_extend_111 ?_
            refine go_iconst hC dX2_extend_112 k1_m1 ?_
            refine go_ixor hC dX2_extend_113 ?_
            refine go_iand hC dX2_extend_114 ?_
            refine go_iload hC dX2_extend_115 5 rfl ?_
            refine go_iconst hC dX2_extend_117 k1_1 ?_
            refine go_iadd hC dX2_extend_118 ?_
            refine go_iload hC dX2_extend_119 6 rfl ?_
            refine go_iload hC dX2_extend_121 0 rfl ?_
            refine go_iadd hC dX2_extend_123 ?_
            obtain ⟨r_32, h_33, hc, hf⟩ := bd_e2 hf
            refine go_callV hC (hrec x2 (x3 &&& (((1 : Int32) <<< (x6 &&& 31)) ^^^ (-1))) (x4 + 1) (x5 + r_29) h_31 h_33 hc) gX2_extend_X2_extend rfl ⟨rfl, rfl⟩ 5 e_X2_extend ⟨by simp only [rm_d]; omega, by simp only [rm_d]; omega⟩ (b_34 _) rfl rfl (st := []) (st1 := []) rfl rfl (Nat.le_of_ble_eq_true rfl) ⟨Nat.zero_le _, Nat.zero_le _⟩ dX2_extend_124 ?_
            obtain ⟨x6_34, ex6_34, hf⟩ := lt_e hf
            refine go_iinc hC dX2_extend_127 7 rfl k1_1 ex6_34 (Nat.le_of_ble_eq_true rfl) rfl ?_
            refine go_goto hC dX2_extend_130 (tgt := 34) (by decide) ?_
            obtain rfl := so_1 hf
            refine go_sub [2, 3, 4, 5, 6, 7, 0] rfl ?_
            exact ih x6_34 h_33 _ (lp_c hy) hk
set_option maxRecDepth 100000 in
set_option maxHeartbeats 4000000 in
theorem c_X2_extend : ∀ (n0 : Nat) (x2 : Int32) (x3 : Int32) (x4 : Int32) (x5 : Int32) (h h2 : PH), f_X2_extend n0 x2 x3 x4 x5 h = some ((), h2) → Con yX2_extend wsX2_extend (rm_d (2 + n0)) l0_B [.ref 34, .ref 10, .int x2, .int x3, .int x4, .int x5] h none h2 := by
  intro n0
  induction n0 with
  | zero =>
    intro x2 x3 x4 x5 h h2 hf
    simp [f_X2_extend] at hf
  | succ n0 ih =>
    intro x2 x3 x4 x5 h h2 hf
    have hn2 : ∀ w ∈ wsX20, w ∈ wsX2_extend := (fun _ hw => (List.mem_cons_of_mem _ (List.mem_append_left _ (List.mem_append_right _ hw))))
    have hn3 : ∀ w ∈ wsX30, w ∈ wsX2_extend := (fun _ hw => (List.mem_cons_of_mem _ (List.mem_append_right _ hw)))
    refine con_v (cc := cX2_extend) (nL := 8) (by decide) rfl (Nat.le_of_ble_eq_true rfl) ?_
    intro C hC hret
    change Go l0_B C 0 0 0 [(0, .ref 34), (1, .ref 10), (2, .int x2), (3, .int x3), (4, .int x4), (5, .int x5)] [] h
    rw [f_X2_extend] at hf
    refine go_iload hC dX2_extend_0 4 rfl ?_
    refine go_if_le hC dX2_extend_2 (tgt := 31) (by decide) (fun c_46 => ?_) (fun c_46 => ?_)
    · replace hf := if_t c_46 hf
      refine go_iconst hC dX2_extend_31 k1_0 ?_
      refine go_istore hC dX2_extend_32 (Nat.le_of_ble_eq_true rfl) rfl ?_
      obtain ⟨s_39, hl, hf⟩ := bd_e1 hf
      refine go_sub [1, 2, 3, 4, 5, 6, 0] rfl ?_
      refine lw_X2_extend_34 (f_X2_extend n0) ih hC x2 x3 x4 x5 _ 0 h s_39 hl ?_
      obtain ⟨-, rfl⟩ := so_2 hf
      exact hret _ _ dX2_extend_133
    · replace hf := if_f c_46 hf
      refine go_iload_n hC dX2_extend_5 rfl 3 rfl ?_
      refine go_if_ne hC dX2_extend_6 (tgt := 31) (by decide) (fun c_45 => ?_) (fun c_45 => ?_)
      · replace hf := if_f c_45 hf
        refine go_iconst hC dX2_extend_31 k1_0 ?_
        refine go_istore hC dX2_extend_32 (Nat.le_of_ble_eq_true rfl) rfl ?_
        obtain ⟨s_40, hl, hf⟩ := bd_e1 hf
        refine go_sub [1, 2, 3, 4, 5, 6, 0] rfl ?_
        refine lw_X2_extend_34 (f_X2_extend n0) ih hC x2 x3 x4 x5 _ 0 h s_40 hl ?_
        obtain ⟨-, rfl⟩ := so_2 hf
        exact hret _ _ dX2_extend_133
      · replace hf := if_t c_45 hf
        refine go_aload_n hC dX2_extend_9 rfl 0 rfl ?_
        refine go_iload hC dX2_extend_10 5 rfl ?_
        refine go_aload_n hC dX2_extend_12 rfl 1 rfl ?_
        refine go_aload_n hC dX2_extend_13 rfl 0 rfl ?_
        refine go_getr hC (j := 1) (idx := 15) (nm := "row") (ds := "[I") (b_34 _) rfl rfl hn2 (Nat.le_of_ble_eq_true rfl) rfl rfl (List.mem_cons_of_mem _ (List.mem_append_left _ (List.mem_append_left _ (List.mem_of_getElem? (i := 0) rfl)))) (Or.inl rfl) dX2_extend_14 ?_
        refine go_iload hC dX2_extend_17 4 rfl ?_
        refine go_iconst hC dX2_extend_19 k1_1 ?_
        refine go_isub hC dX2_extend_20 ?_
        obtain ⟨g_41, hf⟩ := ga_e hf
        refine go_iald hC (b_36 _) g_41 dX2_extend_21 ?_
        refine go_iload_n hC dX2_extend_22 rfl 2 rfl ?_
        obtain ⟨r_42, hc, hf⟩ := bd_e1 hf
        refine go_callV hC (c_X3_yardsFrom (h.1 36 (x4 - 1).toNatClampNeg) x2 h r_42 hc) gX2_extend_X3_yardsFrom rfl ⟨rfl, rfl⟩ 2 e_X3_yardsFrom ⟨by simp only [rm_d]; omega, by simp only [rm_d]; omega⟩ (b_10 _) rfl rfl (st := [.int x5, .ref 34]) (st1 := [.int r_42, .int x5, .ref 34]) rfl rfl (Nat.le_of_ble_eq_true rfl) ⟨Nat.zero_le _, Nat.zero_le _⟩ dX2_extend_23 ?_
        refine go_iadd hC dX2_extend_26 ?_
        obtain ⟨r_43, h_44, hc, hf⟩ := bd_e2 hf
        refine go_callV hC (c_X2_keepIfFewer (x5 + r_42) h h_44 hc) gX2_extend_X2_keepIfFewer rfl ⟨rfl, rfl⟩ 1 e_X2_keepIfFewer ⟨by simp only [rm_d]; omega, by simp only [rm_d]; omega⟩ (b_34 _) rfl rfl (st := []) (st1 := []) rfl rfl (Nat.le_of_ble_eq_true rfl) ⟨Nat.zero_le _, Nat.zero_le _⟩ dX2_extend_27 ?_
        obtain ⟨-, rfl⟩ := so_2 hf
        exact hret _ _ dX2_extend_30
def f_X2_fewestCores (x2 : Int32) (x3 : Int32) (h : PH) : Option (Int32 × PH) :=
  lt_b (ph_i h 34 2 1000000) fun h_1 =>
  bd_1 (f_X3_yardsFrom (h_1.1 10 1) x2 h_1) fun r_2 =>
  bd_2 (f_X2_extend 12 x2 x3 0 r_2 h_1) fun r_3 h_4 =>
  some (h_4.1 34 2, h_4)
theorem e_X2_fewestCores : yX2_fewestCores.cls = RX2 ∧ yX2_fewestCores.cls ≠ "java/lang/invoke/MethodHandle" ∧ yX2_fewestCores.cls ≠ "java/lang/invoke/VarHandle" ∧ (parseMethodDescriptor yX2_fewestCores.desc).map (fun d => d.parameters.length) = some 3 := by decide +kernel
set_option maxRecDepth 100000 in
set_option maxHeartbeats 4000000 in
theorem c_X2_fewestCores (x2 : Int32) (x3 : Int32) (h : PH) (h2 : PH) (r : Int32) (hf : f_X2_fewestCores x2 x3 h = some (r, h2)) : Con yX2_fewestCores wsX2_fewestCores (rm_d 15) l0_B [.ref 34, .ref 10, .int x2, .int x3] h (some (.int r)) h2 := by
  have hn2 : ∀ w ∈ wsX20, w ∈ wsX2_fewestCores := (fun _ hw => (List.mem_cons_of_mem _ (List.mem_append_left _ (List.mem_append_right _ hw))))
  have hn3 : ∀ w ∈ wsX30, w ∈ wsX2_fewestCores := (fun _ hw => (List.mem_cons_of_mem _ (List.mem_append_right _ hw)))
  refine con_i (ty := .int) (cc := cX2_fewestCores) (nL := 4) (by decide) rfl (Nat.le_of_ble_eq_true rfl) ?_
  intro C hC hret
  change Go l0_B C 0 0 0 [(0, .ref 34), (1, .ref 10), (2, .int x2), (3, .int x3)] [] h
  unfold f_X2_fewestCores at hf
  refine go_aload_n hC dX2_fewestCores_0 rfl 0 rfl ?_
  refine go_ldc hC (v := 1000000) (List.mem_cons_of_mem _ (List.mem_append_left _ (List.mem_append_left _ (List.mem_append_left _ (List.mem_of_getElem? (i := 0) rfl))))) dX2_fewestCores_1 ?_
  obtain ⟨h_1, eh_1, hf⟩ := lt_e hf
  refine go_puti hC tyX2 (j := 2) (idx := 19) (nm := "fewest") (ds := "I") (b_34 _) rfl rfl hn2 tyX2_ok nmX2 (Nat.le_of_ble_eq_true rfl) rfl rfl (List.mem_cons_of_mem _ (List.mem_append_left _ (List.mem_append_left _ (List.mem_append_left _ (List.mem_of_getElem? (i := 1) rfl))))) (Or.inl rfl) rfl (tyX2_ok _ (Nat.le_of_ble_eq_true rfl)) dX2_fewestCores_3 ?_
  refine go_toph eh_1 ?_
  refine go_aload_n hC dX2_fewestCores_6 rfl 0 rfl ?_
  refine go_aload_n hC dX2_fewestCores_7 rfl 1 rfl ?_
  refine go_iload_n hC dX2_fewestCores_8 rfl 2 rfl ?_
  refine go_iload_n hC dX2_fewestCores_9 rfl 3 rfl ?_
  refine go_iconst hC dX2_fewestCores_10 k1_0 ?_
  refine go_aload_n hC dX2_fewestCores_11 rfl 1 rfl ?_
  refine go_aload_n hC dX2_fewestCores_12 rfl 1 rfl ?_
  refine go_geti hC (j := 1) (idx := 23) (nm := "boxPlace") (ds := "I") (b_10 _) rfl rfl hn3 (Nat.le_of_ble_eq_true rfl) rfl rfl (List.mem_cons_of_mem _ (List.mem_append_left _ (List.mem_append_left _ (List.mem_append_left _ (List.mem_of_getElem? (i := 2) rfl))))) (Or.inl rfl) dX2_fewestCores_13 ?_
  refine go_iload_n hC dX2_fewestCores_16 rfl 2 rfl ?_
  obtain ⟨r_2, hc, hf⟩ := bd_e1 hf
  refine go_callV hC (c_X3_yardsFrom (h_1.1 10 1) x2 h_1 r_2 hc) gX2_fewestCores_X3_yardsFrom rfl ⟨rfl, rfl⟩ 2 e_X3_yardsFrom ⟨Nat.le_of_ble_eq_true rfl, Nat.le_of_ble_eq_true rfl⟩ (b_10 _) rfl rfl (st := [.int 0, .int x3, .int x2, .ref 10, .ref 34]) (st1 := [.int r_2, .int 0, .int x3, .int x2, .ref 10, .ref 34]) rfl rfl (Nat.le_of_ble_eq_true rfl) ⟨Nat.zero_le _, Nat.zero_le _⟩ dX2_fewestCores_17 ?_
  obtain ⟨r_3, h_4, hc, hf⟩ := bd_e2 hf
  refine go_callV hC (c_X2_extend 12 x2 x3 0 r_2 h_1 h_4 hc) gX2_fewestCores_X2_extend rfl ⟨rfl, rfl⟩ 5 e_X2_extend ⟨Nat.le_of_ble_eq_true rfl, Nat.le_of_ble_eq_true rfl⟩ (b_34 _) rfl rfl (st := []) (st1 := []) rfl rfl (Nat.le_of_ble_eq_true rfl) ⟨Nat.zero_le _, Nat.zero_le _⟩ dX2_fewestCores_20 ?_
  refine go_aload_n hC dX2_fewestCores_23 rfl 0 rfl ?_
  refine go_geti hC (j := 2) (idx := 19) (nm := "fewest") (ds := "I") (b_34 _) rfl rfl hn2 (Nat.le_of_ble_eq_true rfl) rfl rfl (List.mem_cons_of_mem _ (List.mem_append_left _ (List.mem_append_left _ (List.mem_append_left _ (List.mem_of_getElem? (i := 1) rfl))))) (Or.inl rfl) dX2_fewestCores_24 ?_
  obtain ⟨rfl, rfl⟩ := so_2 hf
  exact hret _ _ rfl dX2_fewestCores_27
def f_X4_add (x1 : Int32) (x2 : Int32) (h : PH) : Option (Int32 × PH) :=
  ga_i (h.1 37 0) 12 (
  lt_b (ph_i h 38 (h.1 37 0).toNatClampNeg x1) fun h_2 =>
  ga_i (h_2.1 37 0) 12 (
  lt_b (ph_i h_2 39 (h_2.1 37 0).toNatClampNeg x2) fun h_4 =>
  lt_b (ph_i h_4 37 0 ((h_4.1 37 0) + 1)) fun h_5 =>
  some ((h_5.1 37 0) - 1, h_5)))
theorem e_X4_add : yX4_add.cls = RX4 ∧ yX4_add.cls ≠ "java/lang/invoke/MethodHandle" ∧ yX4_add.cls ≠ "java/lang/invoke/VarHandle" ∧ (parseMethodDescriptor yX4_add.desc).map (fun d => d.parameters.length) = some 2 := by decide +kernel
set_option maxRecDepth 100000 in
set_option maxHeartbeats 4000000 in
theorem c_X4_add (x1 : Int32) (x2 : Int32) (h : PH) (h2 : PH) (r : Int32) (hf : f_X4_add x1 x2 h = some (r, h2)) : Con yX4_add wsX4_add (rm_d 0) l0_B [.ref 37, .int x1, .int x2] h (some (.int r)) h2 := by
  have hn4 : ∀ w ∈ wsX40, w ∈ wsX4_add := (fun _ hw => (List.mem_cons_of_mem _ (List.mem_append_right _ hw)))
  refine con_i (ty := .int) (cc := cX4_add) (nL := 3) (by decide) rfl (Nat.le_of_ble_eq_true rfl) ?_
  intro C hC hret
  change Go l0_B C 0 0 0 [(0, .ref 37), (1, .int x1), (2, .int x2)] [] h
  unfold f_X4_add at hf
  refine go_aload_n hC dX4_add_0 rfl 0 rfl ?_
  refine go_getr hC (j := 2) (idx := 9) (nm := "sets") (ds := "[I") (b_37 _) rfl rfl hn4 (Nat.le_of_ble_eq_true rfl) rfl rfl (List.mem_cons_of_mem _ (List.mem_append_left _ (List.mem_of_getElem? (i := 0) rfl))) (Or.inl rfl) dX4_add_1 ?_
  refine go_aload_n hC dX4_add_4 rfl 0 rfl ?_
  refine go_geti hC (j := 0) (idx := 24) (nm := "count") (ds := "I") (b_37 _) rfl rfl hn4 (Nat.le_of_ble_eq_true rfl) rfl rfl (List.mem_cons_of_mem _ (List.mem_append_left _ (List.mem_of_getElem? (i := 1) rfl))) (Or.inl rfl) dX4_add_5 ?_
  refine go_iload_n hC dX4_add_8 rfl 1 rfl ?_
  obtain ⟨g_1, hf⟩ := ga_e hf
  obtain ⟨h_2, eh_2, hf⟩ := lt_e hf
  refine go_iast hC (b_38 _) g_1 dX4_add_9 ?_
  refine go_toph eh_2 ?_
  refine go_aload_n hC dX4_add_10 rfl 0 rfl ?_
  refine go_getr hC (j := 3) (idx := 15) (nm := "shown") (ds := "[I") (b_37 _) rfl rfl hn4 (Nat.le_of_ble_eq_true rfl) rfl rfl (List.mem_cons_of_mem _ (List.mem_append_left _ (List.mem_of_getElem? (i := 2) rfl))) (Or.inl rfl) dX4_add_11 ?_
  refine go_aload_n hC dX4_add_14 rfl 0 rfl ?_
  refine go_geti hC (j := 0) (idx := 24) (nm := "count") (ds := "I") (b_37 _) rfl rfl hn4 (Nat.le_of_ble_eq_true rfl) rfl rfl (List.mem_cons_of_mem _ (List.mem_append_left _ (List.mem_of_getElem? (i := 1) rfl))) (Or.inl rfl) dX4_add_15 ?_
  refine go_iload_n hC dX4_add_18 rfl 2 rfl ?_
  obtain ⟨g_3, hf⟩ := ga_e hf
  obtain ⟨h_4, eh_4, hf⟩ := lt_e hf
  refine go_iast hC (b_39 _) g_3 dX4_add_19 ?_
  refine go_toph eh_4 ?_
  refine go_aload_n hC dX4_add_20 rfl 0 rfl ?_
  refine go_dup hC dX4_add_21 rfl ?_
  refine go_geti hC (j := 0) (idx := 24) (nm := "count") (ds := "I") (b_37 _) rfl rfl hn4 (Nat.le_of_ble_eq_true rfl) rfl rfl (List.mem_cons_of_mem _ (List.mem_append_left _ (List.mem_of_getElem? (i := 1) rfl))) (Or.inl rfl) dX4_add_22 ?_
  refine go_iconst hC dX4_add_25 k1_1 ?_
  refine go_iadd hC dX4_add_26 ?_
  obtain ⟨h_5, eh_5, hf⟩ := lt_e hf
  refine go_puti hC tyX4 (j := 0) (idx := 24) (nm := "count") (ds := "I") (b_37 _) rfl rfl hn4 tyX4_ok nmX4 (Nat.le_of_ble_eq_true rfl) rfl rfl (List.mem_cons_of_mem _ (List.mem_append_left _ (List.mem_of_getElem? (i := 1) rfl))) (Or.inl rfl) rfl (tyX4_ok _ (Nat.le_of_ble_eq_true rfl)) dX4_add_27 ?_
  refine go_toph eh_5 ?_
  refine go_aload_n hC dX4_add_30 rfl 0 rfl ?_
  refine go_geti hC (j := 0) (idx := 24) (nm := "count") (ds := "I") (b_37 _) rfl rfl hn4 (Nat.le_of_ble_eq_true rfl) rfl rfl (List.mem_cons_of_mem _ (List.mem_append_left _ (List.mem_of_getElem? (i := 1) rfl))) (Or.inl rfl) dX4_add_31 ?_
  refine go_iconst hC dX4_add_34 k1_1 ?_
  refine go_isub hC dX4_add_35 ?_
  obtain ⟨rfl, rfl⟩ := so_2 hf
  exact hret _ _ rfl dX4_add_36
def lb_X4_addUp_24 (x2 : Int32) (x3 : Int32) (x4 : Int32) (h : PH) : Option ((Int32 × PH) ⊕ (Int32 × PH)) :=
  if x3 ≤ x4 then (
  some (.inr (x4, h)))
  else (
  ga_i x4 256 (
  ga_i x2 8 (
  ga_i (x4 ||| x3) 256 (
  lt_b (ph_i h 40 (x4 ||| x3).toNatClampNeg ((h.1 40 x4.toNatClampNeg) + (h.1 19 x2.toNatClampNeg))) fun h_13 =>
  lt_b (x4 + 1) fun x4_14 =>
  some (.inl (x4_14, h_13))))))
def lb_X4_addUp_9  (x2 : Int32) (h : PH) : Option ((Int32 × PH) ⊕ (Int32 × PH)) :=
  if (h.1 17 0) ≤ x2 then (
  some (.inr (x2, h)))
  else (
  lt_b ((1 : Int32) <<< (x2 &&& 31)) fun x3_19 =>
  bd_1 (lp_f (fun s => lb_X4_addUp_24 x2 x3_19 s.1 s.2) fu_l (0, h)) fun s_20 =>
  lt_b (x2 + 1) fun x2_21 =>
  some (.inl (x2_21, s_20.2)))
def f_X4_addUp (h : PH) : Option (Unit × PH) :=
  ga_i 0 256 (
  lt_b (ph_i h 40 (0 : Int32).toNatClampNeg 0) fun h_2 =>
  bd_1 (lp_f (fun s => lb_X4_addUp_9  s.1 s.2) fu_l (0, h_2)) fun s_23 =>
  some ((), s_23.2))
set_option maxRecDepth 100000 in
set_option maxHeartbeats 4000000 in
theorem lw_X4_addUp_24 {C : GC} (hC : Cx C cX4_addUp 5 wsX4_addUp RX4 none (rm_d 0)) (x2 : Int32) (x3 : Int32) : ∀ (n9 : Nat) (x4 : Int32) (h : PH) (y : Int32 × PH), lp_f (fun s => lb_X4_addUp_24 x2 x3 s.1 s.2) n9 (x4, h) = some y → ∀ (hk : Go l0_B C 0 0 59 [(0, .ref 37), (1, .ref 17), (2, .int x2)] [] y.2), Go l0_B C 0 0 24 [(0, .ref 37), (1, .ref 17), (2, .int x2), (3, .int x3), (4, .int x4)] [] h := by
  have hn4 : ∀ w ∈ wsX40, w ∈ wsX4_addUp := (fun _ hw => (List.mem_cons_of_mem _ (List.mem_append_left _ (List.mem_append_right _ hw))))
  have hn6 : ∀ w ∈ wsX60, w ∈ wsX4_addUp := (fun _ hw => (List.mem_cons_of_mem _ (List.mem_append_right _ hw)))
  intro n9
  induction n9 with
  | zero =>
    intro x4 h y hlp
    cases hlp
  | succ n9 ih =>
    intro x4 h y hlp hk
    obtain ⟨k9, z, hk9, hf, hy⟩ := lp_e hlp
    cases hk9
    replace hf : lb_X4_addUp_24 x2 x3 x4 h = some z := hf
    unfold lb_X4_addUp_24 at hf
    refine go_iload hC dX4_addUp_24 4 rfl ?_
    refine go_iload_n hC dX4_addUp_26 rfl 3 rfl ?_
    refine go_icmp_ge hC dX4_addUp_27 (tgt := 59) (by decide) (fun c_15 => ?_) (fun c_15 => ?_)
    · replace hf := if_t c_15 hf
      obtain rfl := so_1 hf
      obtain rfl := lp_x hy
      refine go_sub [0, 1, 2] rfl ?_
      exact hk
    · replace hf := if_f c_15 hf
      refine go_aload_n hC dX4_addUp_30 rfl 0 rfl ?_
      refine go_getr hC (j := 4) (idx := 18) (nm := "sums") (ds := "[I") (b_37 _) rfl rfl hn4 (Nat.le_of_ble_eq_true rfl) rfl rfl (List.mem_cons_of_mem _ (List.mem_append_left _ (List.mem_append_left _ (List.mem_of_getElem? (i := 0) rfl)))) (Or.inl rfl) dX4_addUp_31 ?_
      refine go_iload hC dX4_addUp_34 4 rfl ?_
      refine go_iload_n hC dX4_addUp_36 rfl 3 rfl ?_
      refine go_ior hC dX4_addUp_37 ?_
      refine go_aload_n hC dX4_addUp_38 rfl 0 rfl ?_
      refine go_getr hC (j := 4) (idx := 18) (nm := "sums") (ds := "[I") (b_37 _) rfl rfl hn4 (Nat.le_of_ble_eq_true rfl) rfl rfl (List.mem_cons_of_mem _ (List.mem_append_left _ (List.mem_append_left _ (List.mem_of_getElem? (i := 0) rfl)))) (Or.inl rfl) dX4_addUp_39 ?_
      refine go_iload hC dX4_addUp_42 4 rfl ?_
      obtain ⟨g_10, hf⟩ := ga_e hf
      refine go_iald hC (b_40 _) g_10 dX4_addUp_44 ?_
      refine go_aload_n hC dX4_addUp_45 rfl 1 rfl ?_
      refine go_getr hC (j := 2) (idx := 50) (nm := "loads") (ds := "[I") (b_17 _) rfl rfl hn6 (Nat.le_of_ble_eq_true rfl) rfl rfl (List.mem_cons_of_mem _ (List.mem_append_left _ (List.mem_append_left _ (List.mem_of_getElem? (i := 2) rfl)))) (Or.inl rfl) dX4_addUp_46 ?_
      refine go_iload_n hC dX4_addUp_49 rfl 2 rfl ?_
      obtain ⟨g_11, hf⟩ := ga_e hf
      refine go_iald hC (b_19 _) g_11 dX4_addUp_50 ?_
      refine go_iadd hC dX4_addUp_51 ?_
      obtain ⟨g_12, hf⟩ := ga_e hf
      obtain ⟨h_13, eh_13, hf⟩ := lt_e hf
      refine go_iast hC (b_40 _) g_12 dX4_addUp_52 ?_
      refine go_toph eh_13 ?_
      obtain ⟨x4_14, ex4_14, hf⟩ := lt_e hf
      refine go_iinc hC dX4_addUp_53 4 rfl k1_1 ex4_14 (Nat.le_of_ble_eq_true rfl) rfl ?_
      refine go_goto hC dX4_addUp_56 (tgt := 24) (by decide) ?_
      obtain rfl := so_1 hf
      refine go_sub [1, 2, 3, 4, 0] rfl ?_
      exact ih x4_14 h_13 _ (lp_c hy) hk
set_option maxRecDepth 100000 in
set_option maxHeartbeats 4000000 in
theorem lw_X4_addUp_9 {C : GC} (hC : Cx C cX4_addUp 5 wsX4_addUp RX4 none (rm_d 0))  : ∀ (n9 : Nat) (x2 : Int32) (h : PH) (y : Int32 × PH), lp_f (fun s => lb_X4_addUp_9  s.1 s.2) n9 (x2, h) = some y → ∀ (hk : Go l0_B C 0 0 65 [] [] y.2), Go l0_B C 0 0 9 [(0, .ref 37), (1, .ref 17), (2, .int x2)] [] h := by
  have hn4 : ∀ w ∈ wsX40, w ∈ wsX4_addUp := (fun _ hw => (List.mem_cons_of_mem _ (List.mem_append_left _ (List.mem_append_right _ hw))))
  have hn6 : ∀ w ∈ wsX60, w ∈ wsX4_addUp := (fun _ hw => (List.mem_cons_of_mem _ (List.mem_append_right _ hw)))
  intro n9
  induction n9 with
  | zero =>
    intro x2 h y hlp
    cases hlp
  | succ n9 ih =>
    intro x2 h y hlp hk
    obtain ⟨k9, z, hk9, hf, hy⟩ := lp_e hlp
    cases hk9
    replace hf : lb_X4_addUp_9  x2 h = some z := hf
    unfold lb_X4_addUp_9 at hf
    refine go_iload_n hC dX4_addUp_9 rfl 2 rfl ?_
    refine go_aload_n hC dX4_addUp_10 rfl 1 rfl ?_
    refine go_geti hC (j := 0) (idx := 49) (nm := "count") (ds := "I") (b_17 _) rfl rfl hn6 (Nat.le_of_ble_eq_true rfl) rfl rfl (List.mem_cons_of_mem _ (List.mem_append_left _ (List.mem_append_left _ (List.mem_of_getElem? (i := 1) rfl)))) (Or.inl rfl) dX4_addUp_11 ?_
    refine go_icmp_ge hC dX4_addUp_14 (tgt := 65) (by decide) (fun c_22 => ?_) (fun c_22 => ?_)
    · replace hf := if_t c_22 hf
      obtain rfl := so_1 hf
      obtain rfl := lp_x hy
      refine go_sub [] rfl ?_
      exact hk
    · replace hf := if_f c_22 hf
      refine go_iconst hC dX4_addUp_17 k1_1 ?_
      refine go_iload_n hC dX4_addUp_18 rfl 2 rfl ?_
      refine go_ishl hC dX4_addUp_19 ?_
      obtain ⟨x3_19, ex3_19, hf⟩ := lt_e hf
      refine go_topi ex3_19 ?_
      refine go_istore_n hC dX4_addUp_20 rfl (Nat.le_of_ble_eq_true rfl) rfl ?_
      refine go_iconst hC dX4_addUp_21 k1_0 ?_
      refine go_istore hC dX4_addUp_22 (Nat.le_of_ble_eq_true rfl) rfl ?_
      obtain ⟨s_20, hl, hf⟩ := bd_e1 hf
      refine go_sub [2, 3, 4, 1, 0] rfl ?_
      refine lw_X4_addUp_24 hC x2 x3_19 _ 0 h s_20 hl ?_
      obtain ⟨x2_21, ex2_21, hf⟩ := lt_e hf
      refine go_iinc hC dX4_addUp_59 2 rfl k1_1 ex2_21 (Nat.le_of_ble_eq_true rfl) rfl ?_
      refine go_goto hC dX4_addUp_62 (tgt := 9) (by decide) ?_
      obtain rfl := so_1 hf
      refine go_sub [1, 2, 0] rfl ?_
      exact ih x2_21 s_20.2 _ (lp_c hy) hk
theorem e_X4_addUp : yX4_addUp.cls = RX4 ∧ yX4_addUp.cls ≠ "java/lang/invoke/MethodHandle" ∧ yX4_addUp.cls ≠ "java/lang/invoke/VarHandle" ∧ (parseMethodDescriptor yX4_addUp.desc).map (fun d => d.parameters.length) = some 1 := by decide +kernel
set_option maxRecDepth 100000 in
set_option maxHeartbeats 4000000 in
theorem c_X4_addUp (h : PH) (h2 : PH) (hf : f_X4_addUp h = some ((), h2)) : Con yX4_addUp wsX4_addUp (rm_d 0) l0_B [.ref 37, .ref 17] h none h2 := by
  have hn4 : ∀ w ∈ wsX40, w ∈ wsX4_addUp := (fun _ hw => (List.mem_cons_of_mem _ (List.mem_append_left _ (List.mem_append_right _ hw))))
  have hn6 : ∀ w ∈ wsX60, w ∈ wsX4_addUp := (fun _ hw => (List.mem_cons_of_mem _ (List.mem_append_right _ hw)))
  refine con_v (cc := cX4_addUp) (nL := 5) (by decide) rfl (Nat.le_of_ble_eq_true rfl) ?_
  intro C hC hret
  change Go l0_B C 0 0 0 [(0, .ref 37), (1, .ref 17)] [] h
  unfold f_X4_addUp at hf
  refine go_aload_n hC dX4_addUp_0 rfl 0 rfl ?_
  refine go_getr hC (j := 4) (idx := 18) (nm := "sums") (ds := "[I") (b_37 _) rfl rfl hn4 (Nat.le_of_ble_eq_true rfl) rfl rfl (List.mem_cons_of_mem _ (List.mem_append_left _ (List.mem_append_left _ (List.mem_of_getElem? (i := 0) rfl)))) (Or.inl rfl) dX4_addUp_1 ?_
  refine go_iconst hC dX4_addUp_4 k1_0 ?_
  refine go_iconst hC dX4_addUp_5 k1_0 ?_
  obtain ⟨g_1, hf⟩ := ga_e hf
  obtain ⟨h_2, eh_2, hf⟩ := lt_e hf
  refine go_iast hC (b_40 _) g_1 dX4_addUp_6 ?_
  refine go_toph eh_2 ?_
  refine go_iconst hC dX4_addUp_7 k1_0 ?_
  refine go_istore_n hC dX4_addUp_8 rfl (Nat.le_of_ble_eq_true rfl) rfl ?_
  obtain ⟨s_23, hl, hf⟩ := bd_e1 hf
  refine go_sub [1, 2, 0] rfl ?_
  refine lw_X4_addUp_9 hC  _ 0 h_2 s_23 hl ?_
  obtain ⟨-, rfl⟩ := so_2 hf
  exact hret _ _ dX4_addUp_65
def lb_X4_isFitting_2 (x1 : Int32) (h : PH) (x2 : Int32) : Option ((Int32) ⊕ ((Int32) ⊕ (Int32))) :=
  if (h.1 37 0) ≤ x2 then (
  some (.inr (.inr x2)))
  else (
  ga_i x2 12 (
  ga_i (x1 &&& (h.1 38 x2.toNatClampNeg)) 256 (
  ga_i x2 12 (
  if (h.1 40 (x1 &&& (h.1 38 x2.toNatClampNeg)).toNatClampNeg) = (h.1 39 x2.toNatClampNeg) then (
  lt_b (x2 + 1) fun x2_10 =>
  some (.inl x2_10))
  else (
  some (.inr (.inl 0)))))))
def f_X4_isFitting (x1 : Int32) (h : PH) : Option (Int32) :=
  bd_1 (lp_f (fun s => lb_X4_isFitting_2 x1 h s) fu_l 0) fun s_13 => sw_b s_13 (fun r_15 => some r_15) fun e_14 =>
  some 1
set_option maxRecDepth 100000 in
set_option maxHeartbeats 4000000 in
theorem lw_X4_isFitting_2 {C : GC} (hC : Cx C cX4_isFitting 3 wsX4_isFitting RX4 (some .boolean) (rm_d 0)) (x1 : Int32) (h : PH) : ∀ (n9 : Nat) (x2 : Int32) (y : (Int32) ⊕ (Int32)), lp_f (fun s => lb_X4_isFitting_2 x1 h s) n9 x2 = some y → ∀ (hk : match y with | .inl r => (∀ (pc : Nat) (L : List (Nat × Value)), narrow .boolean (.int r) = .int r → decode cX4_isFitting pc = .ok (.ireturn, 1) → Go l0_B C 0 0 pc L [.int r] h) | .inr e => Go l0_B C 0 0 40 [] [] h), Go l0_B C 0 0 2 [(0, .ref 37), (1, .int x1), (2, .int x2)] [] h := by
  have hn4 : ∀ w ∈ wsX40, w ∈ wsX4_isFitting := (fun _ hw => (List.mem_cons_of_mem _ (List.mem_append_right _ hw)))
  intro n9
  induction n9 with
  | zero =>
    intro x2 y hlp
    cases hlp
  | succ n9 ih =>
    intro x2 y hlp hk
    obtain ⟨k9, z, hk9, hf, hy⟩ := lp_e hlp
    cases hk9
    replace hf : lb_X4_isFitting_2 x1 h x2 = some z := hf
    unfold lb_X4_isFitting_2 at hf
    refine go_iload_n hC dX4_isFitting_2 rfl 2 rfl ?_
    refine go_aload_n hC dX4_isFitting_3 rfl 0 rfl ?_
    refine go_geti hC (j := 0) (idx := 24) (nm := "count") (ds := "I") (b_37 _) rfl rfl hn4 (Nat.le_of_ble_eq_true rfl) rfl rfl (List.mem_cons_of_mem _ (List.mem_append_left _ (List.mem_of_getElem? (i := 0) rfl))) (Or.inl rfl) dX4_isFitting_4 ?_
    refine go_icmp_ge hC dX4_isFitting_7 (tgt := 40) (by decide) (fun c_12 => ?_) (fun c_12 => ?_)
    · replace hf := if_t c_12 hf
      obtain rfl := so_1 hf
      obtain rfl := lp_x hy
      refine go_sub [] rfl ?_
      exact hk
    · replace hf := if_f c_12 hf
      refine go_aload_n hC dX4_isFitting_10 rfl 0 rfl ?_
      refine go_getr hC (j := 4) (idx := 18) (nm := "sums") (ds := "[I") (b_37 _) rfl rfl hn4 (Nat.le_of_ble_eq_true rfl) rfl rfl (List.mem_cons_of_mem _ (List.mem_append_left _ (List.mem_of_getElem? (i := 1) rfl))) (Or.inl rfl) dX4_isFitting_11 ?_
      refine go_iload_n hC dX4_isFitting_14 rfl 1 rfl ?_
      refine go_aload_n hC dX4_isFitting_15 rfl 0 rfl ?_
      refine go_getr hC (j := 2) (idx := 9) (nm := "sets") (ds := "[I") (b_37 _) rfl rfl hn4 (Nat.le_of_ble_eq_true rfl) rfl rfl (List.mem_cons_of_mem _ (List.mem_append_left _ (List.mem_of_getElem? (i := 2) rfl))) (Or.inl rfl) dX4_isFitting_16 ?_
      refine go_iload_n hC dX4_isFitting_19 rfl 2 rfl ?_
      obtain ⟨g_7, hf⟩ := ga_e hf
      refine go_iald hC (b_38 _) g_7 dX4_isFitting_20 ?_
      refine go_iand hC dX4_isFitting_21 ?_
      obtain ⟨g_8, hf⟩ := ga_e hf
      refine go_iald hC (b_40 _) g_8 dX4_isFitting_22 ?_
      refine go_aload_n hC dX4_isFitting_23 rfl 0 rfl ?_
      refine go_getr hC (j := 3) (idx := 15) (nm := "shown") (ds := "[I") (b_37 _) rfl rfl hn4 (Nat.le_of_ble_eq_true rfl) rfl rfl (List.mem_cons_of_mem _ (List.mem_append_left _ (List.mem_of_getElem? (i := 3) rfl))) (Or.inl rfl) dX4_isFitting_24 ?_
      refine go_iload_n hC dX4_isFitting_27 rfl 2 rfl ?_
      obtain ⟨g_9, hf⟩ := ga_e hf
      refine go_iald hC (b_39 _) g_9 dX4_isFitting_28 ?_
      refine go_icmp_eq hC dX4_isFitting_29 (tgt := 34) (by decide) (fun c_11 => ?_) (fun c_11 => ?_)
      · replace hf := if_t c_11 hf
        obtain ⟨x2_10, ex2_10, hf⟩ := lt_e hf
        refine go_iinc hC dX4_isFitting_34 2 rfl k1_1 ex2_10 (Nat.le_of_ble_eq_true rfl) rfl ?_
        refine go_goto hC dX4_isFitting_37 (tgt := 2) (by decide) ?_
        obtain rfl := so_1 hf
        refine go_sub [1, 2, 0] rfl ?_
        exact ih x2_10 _ (lp_c hy) hk
      · replace hf := if_f c_11 hf
        refine go_iconst hC dX4_isFitting_32 k1_0 ?_
        obtain rfl := so_1 hf
        obtain rfl := lp_x hy
        exact hk _ _ (zo_n (Or.inl rfl)) dX4_isFitting_33
theorem e_X4_isFitting : yX4_isFitting.cls = RX4 ∧ yX4_isFitting.cls ≠ "java/lang/invoke/MethodHandle" ∧ yX4_isFitting.cls ≠ "java/lang/invoke/VarHandle" ∧ (parseMethodDescriptor yX4_isFitting.desc).map (fun d => d.parameters.length) = some 1 := by decide +kernel
set_option maxRecDepth 100000 in
set_option maxHeartbeats 4000000 in
theorem c_X4_isFitting (x1 : Int32) (h : PH) (r : Int32) (hf : f_X4_isFitting x1 h = some r) : Con yX4_isFitting wsX4_isFitting (rm_d 0) l0_B [.ref 37, .int x1] h (some (.int r)) h := by
  have hn4 : ∀ w ∈ wsX40, w ∈ wsX4_isFitting := (fun _ hw => (List.mem_cons_of_mem _ (List.mem_append_right _ hw)))
  refine con_i (ty := .boolean) (cc := cX4_isFitting) (nL := 3) (by decide) rfl (Nat.le_of_ble_eq_true rfl) ?_
  intro C hC hret
  change Go l0_B C 0 0 0 [(0, .ref 37), (1, .int x1)] [] h
  unfold f_X4_isFitting at hf
  refine go_iconst hC dX4_isFitting_0 k1_0 ?_
  refine go_istore_n hC dX4_isFitting_1 rfl (Nat.le_of_ble_eq_true rfl) rfl ?_
  obtain ⟨s_13, hl, hf⟩ := bd_e1 hf
  refine go_sub [1, 2, 0] rfl ?_
  refine lw_X4_isFitting_2 hC x1 h _ 0 s_13 hl ?_
  rcases s_13 with r_15 | e_14
  · replace hf : some r_15 = some _ := hf
    cases hf
    exact hret
  · replace hf := sw_r hf
    refine go_iconst hC dX4_isFitting_40 k1_1 ?_
    obtain rfl := so_1 hf
    exact hret _ _ (zo_n (Or.inr rfl)) dX4_isFitting_41
def lb_X4_countIn_12 (x1 : Int32) (x2 : Int32) (h : PH) : Option ((Int32 × PH) ⊕ (Int32 × PH)) :=
  if 8 ≤ x2 then (
  some (.inr (x2, h)))
  else (
  ga_i x2 8 (
  ga_i x2 8 (
  lt_b (ph_i h 41 x2.toNatClampNeg ((h.1 41 x2.toNatClampNeg) + ((x1 >>> (x2 &&& 31)) &&& 1))) fun h_9 =>
  lt_b (x2 + 1) fun x2_10 =>
  some (.inl (x2_10, h_9)))))
def f_X4_countIn (x1 : Int32) (h : PH) : Option (Unit × PH) :=
  lt_b (ph_i h 37 1 ((h.1 37 1) + 1)) fun h_1 =>
  bd_1 (lp_f (fun s => lb_X4_countIn_12 x1 s.1 s.2) fu_l (0, h_1)) fun s_12 =>
  some ((), s_12.2)
set_option maxRecDepth 100000 in
set_option maxHeartbeats 4000000 in
theorem lw_X4_countIn_12 {C : GC} (hC : Cx C cX4_countIn 3 wsX4_countIn RX4 none (rm_d 0)) (x1 : Int32) : ∀ (n9 : Nat) (x2 : Int32) (h : PH) (y : Int32 × PH), lp_f (fun s => lb_X4_countIn_12 x1 s.1 s.2) n9 (x2, h) = some y → ∀ (hk : Go l0_B C 0 0 38 [] [] y.2), Go l0_B C 0 0 12 [(0, .ref 37), (1, .int x1), (2, .int x2)] [] h := by
  have hn4 : ∀ w ∈ wsX40, w ∈ wsX4_countIn := (fun _ hw => (List.mem_cons_of_mem _ (List.mem_append_right _ hw)))
  intro n9
  induction n9 with
  | zero =>
    intro x2 h y hlp
    cases hlp
  | succ n9 ih =>
    intro x2 h y hlp hk
    obtain ⟨k9, z, hk9, hf, hy⟩ := lp_e hlp
    cases hk9
    replace hf : lb_X4_countIn_12 x1 x2 h = some z := hf
    unfold lb_X4_countIn_12 at hf
    refine go_iload_n hC dX4_countIn_12 rfl 2 rfl ?_
    refine go_bipush hC dX4_countIn_13 k8_8 ?_
    refine go_icmp_ge hC dX4_countIn_15 (tgt := 38) (by decide) (fun c_11 => ?_) (fun c_11 => ?_)
    · replace hf := if_t c_11 hf
      obtain rfl := so_1 hf
      obtain rfl := lp_x hy
      refine go_sub [] rfl ?_
      exact hk
    · replace hf := if_f c_11 hf
      refine go_aload_n hC dX4_countIn_18 rfl 0 rfl ?_
      refine go_getr hC (j := 5) (idx := 21) (nm := "fittingWith") (ds := "[I") (b_37 _) rfl rfl hn4 (Nat.le_of_ble_eq_true rfl) rfl rfl (List.mem_cons_of_mem _ (List.mem_append_left _ (List.mem_of_getElem? (i := 1) rfl))) (Or.inl rfl) dX4_countIn_19 ?_
      refine go_iload_n hC dX4_countIn_22 rfl 2 rfl ?_
      refine go_dup2 hC dX4_countIn_23 rfl rfl ?_
      obtain ⟨g_7, hf⟩ := ga_e hf
      refine go_iald hC (b_41 _) g_7 dX4_countIn_24 ?_
      refine go_iload_n hC dX4_countIn_25 rfl 1 rfl ?_
      refine go_iload_n hC dX4_countIn_26 rfl 2 rfl ?_
      refine go_ishr hC dX4_countIn_27 ?_
      refine go_iconst hC dX4_countIn_28 k1_1 ?_
      refine go_iand hC dX4_countIn_29 ?_
      refine go_iadd hC dX4_countIn_30 ?_
      obtain ⟨g_8, hf⟩ := ga_e hf
      obtain ⟨h_9, eh_9, hf⟩ := lt_e hf
      refine go_iast hC (b_41 _) g_8 dX4_countIn_31 ?_
      refine go_toph eh_9 ?_
      obtain ⟨x2_10, ex2_10, hf⟩ := lt_e hf
      refine go_iinc hC dX4_countIn_32 2 rfl k1_1 ex2_10 (Nat.le_of_ble_eq_true rfl) rfl ?_
      refine go_goto hC dX4_countIn_35 (tgt := 12) (by decide) ?_
      obtain rfl := so_1 hf
      refine go_sub [1, 2, 0] rfl ?_
      exact ih x2_10 h_9 _ (lp_c hy) hk
theorem e_X4_countIn : yX4_countIn.cls = RX4 ∧ yX4_countIn.cls ≠ "java/lang/invoke/MethodHandle" ∧ yX4_countIn.cls ≠ "java/lang/invoke/VarHandle" ∧ (parseMethodDescriptor yX4_countIn.desc).map (fun d => d.parameters.length) = some 1 := by decide +kernel
set_option maxRecDepth 100000 in
set_option maxHeartbeats 4000000 in
theorem c_X4_countIn (x1 : Int32) (h : PH) (h2 : PH) (hf : f_X4_countIn x1 h = some ((), h2)) : Con yX4_countIn wsX4_countIn (rm_d 0) l0_B [.ref 37, .int x1] h none h2 := by
  have hn4 : ∀ w ∈ wsX40, w ∈ wsX4_countIn := (fun _ hw => (List.mem_cons_of_mem _ (List.mem_append_right _ hw)))
  refine con_v (cc := cX4_countIn) (nL := 3) (by decide) rfl (Nat.le_of_ble_eq_true rfl) ?_
  intro C hC hret
  change Go l0_B C 0 0 0 [(0, .ref 37), (1, .int x1)] [] h
  unfold f_X4_countIn at hf
  refine go_aload_n hC dX4_countIn_0 rfl 0 rfl ?_
  refine go_dup hC dX4_countIn_1 rfl ?_
  refine go_geti hC (j := 1) (idx := 28) (nm := "fitting") (ds := "I") (b_37 _) rfl rfl hn4 (Nat.le_of_ble_eq_true rfl) rfl rfl (List.mem_cons_of_mem _ (List.mem_append_left _ (List.mem_of_getElem? (i := 0) rfl))) (Or.inl rfl) dX4_countIn_2 ?_
  refine go_iconst hC dX4_countIn_5 k1_1 ?_
  refine go_iadd hC dX4_countIn_6 ?_
  obtain ⟨h_1, eh_1, hf⟩ := lt_e hf
  refine go_puti hC tyX4 (j := 1) (idx := 28) (nm := "fitting") (ds := "I") (b_37 _) rfl rfl hn4 tyX4_ok nmX4 (Nat.le_of_ble_eq_true rfl) rfl rfl (List.mem_cons_of_mem _ (List.mem_append_left _ (List.mem_of_getElem? (i := 0) rfl))) (Or.inl rfl) rfl (tyX4_ok _ (Nat.le_of_ble_eq_true rfl)) dX4_countIn_7 ?_
  refine go_toph eh_1 ?_
  refine go_iconst hC dX4_countIn_10 k1_0 ?_
  refine go_istore_n hC dX4_countIn_11 rfl (Nat.le_of_ble_eq_true rfl) rfl ?_
  obtain ⟨s_12, hl, hf⟩ := bd_e1 hf
  refine go_sub [1, 2, 0] rfl ?_
  refine lw_X4_countIn_12 hC x1 _ 0 h_1 s_12 hl ?_
  obtain ⟨-, rfl⟩ := so_2 hf
  exact hret _ _ dX4_countIn_38
def lb_X4_weigh_7  (x2 : Int32) (h : PH) : Option ((Int32 × PH) ⊕ (Int32 × PH)) :=
  if 8 ≤ x2 then (
  some (.inr (x2, h)))
  else (
  ga_i x2 8 (
  lt_b (ph_i h 41 x2.toNatClampNeg 0) fun h_7 =>
  lt_b (x2 + 1) fun x2_8 =>
  some (.inl (x2_8, h_7))))
def lb_X4_weigh_33  (x2 : Int32) (h : PH) : Option ((Int32 × PH) ⊕ (Int32 × PH)) :=
  bd_1 (f_X6_all h) fun r_21 =>
  if r_21 < x2 then (
  some (.inr (x2, h)))
  else (
  bd_1 (f_X4_isFitting x2 h) fun r_22 =>
  if r_22 = 0 then (
  lt_b (x2 + 1) fun x2_23 =>
  some (.inl (x2_23, h)))
  else (
  bd_2 (f_X4_countIn x2 h) fun r_24 h_25 =>
  lt_b (x2 + 1) fun x2_26 =>
  some (.inl (x2_26, h_25))))
def f_X4_weigh (h : PH) : Option (Unit × PH) :=
  lt_b (ph_i h 37 1 0) fun h_1 =>
  bd_1 (lp_f (fun s => lb_X4_weigh_7  s.1 s.2) fu_l (0, h_1)) fun s_10 =>
  bd_2 (f_X4_addUp s_10.2) fun r_11 h_12 =>
  bd_1 (lp_f (fun s => lb_X4_weigh_33  s.1 s.2) fu_l (0, h_12)) fun s_29 =>
  some ((), s_29.2)
set_option maxRecDepth 100000 in
set_option maxHeartbeats 4000000 in
theorem lw_X4_weigh_7 {C : GC} (hC : Cx C cX4_weigh 3 wsX4_weigh RX4 none (rm_d 1))  : ∀ (n9 : Nat) (x2 : Int32) (h : PH) (y : Int32 × PH), lp_f (fun s => lb_X4_weigh_7  s.1 s.2) n9 (x2, h) = some y → ∀ (hk : Go l0_B C 0 0 26 [(0, .ref 37), (1, .ref 17)] [] y.2), Go l0_B C 0 0 7 [(0, .ref 37), (1, .ref 17), (2, .int x2)] [] h := by
  have hn4 : ∀ w ∈ wsX40, w ∈ wsX4_weigh := (fun _ hw => (List.mem_cons_of_mem _ (List.mem_append_left _ (List.mem_append_right _ hw))))
  intro n9
  induction n9 with
  | zero =>
    intro x2 h y hlp
    cases hlp
  | succ n9 ih =>
    intro x2 h y hlp hk
    obtain ⟨k9, z, hk9, hf, hy⟩ := lp_e hlp
    cases hk9
    replace hf : lb_X4_weigh_7  x2 h = some z := hf
    unfold lb_X4_weigh_7 at hf
    refine go_iload_n hC dX4_weigh_7 rfl 2 rfl ?_
    refine go_bipush hC dX4_weigh_8 k8_8 ?_
    refine go_icmp_ge hC dX4_weigh_10 (tgt := 26) (by decide) (fun c_9 => ?_) (fun c_9 => ?_)
    · replace hf := if_t c_9 hf
      obtain rfl := so_1 hf
      obtain rfl := lp_x hy
      refine go_sub [0, 1] rfl ?_
      exact hk
    · replace hf := if_f c_9 hf
      refine go_aload_n hC dX4_weigh_13 rfl 0 rfl ?_
      refine go_getr hC (j := 5) (idx := 21) (nm := "fittingWith") (ds := "[I") (b_37 _) rfl rfl hn4 (Nat.le_of_ble_eq_true rfl) rfl rfl (List.mem_cons_of_mem _ (List.mem_append_left _ (List.mem_append_left _ (List.mem_append_left _ (List.mem_of_getElem? (i := 1) rfl))))) (Or.inl rfl) dX4_weigh_14 ?_
      refine go_iload_n hC dX4_weigh_17 rfl 2 rfl ?_
      refine go_iconst hC dX4_weigh_18 k1_0 ?_
      obtain ⟨g_6, hf⟩ := ga_e hf
      obtain ⟨h_7, eh_7, hf⟩ := lt_e hf
      refine go_iast hC (b_41 _) g_6 dX4_weigh_19 ?_
      refine go_toph eh_7 ?_
      obtain ⟨x2_8, ex2_8, hf⟩ := lt_e hf
      refine go_iinc hC dX4_weigh_20 2 rfl k1_1 ex2_8 (Nat.le_of_ble_eq_true rfl) rfl ?_
      refine go_goto hC dX4_weigh_23 (tgt := 7) (by decide) ?_
      obtain rfl := so_1 hf
      refine go_sub [1, 2, 0] rfl ?_
      exact ih x2_8 h_7 _ (lp_c hy) hk
set_option maxRecDepth 100000 in
set_option maxHeartbeats 4000000 in
theorem lw_X4_weigh_33 {C : GC} (hC : Cx C cX4_weigh 3 wsX4_weigh RX4 none (rm_d 1))  : ∀ (n9 : Nat) (x2 : Int32) (h : PH) (y : Int32 × PH), lp_f (fun s => lb_X4_weigh_33  s.1 s.2) n9 (x2, h) = some y → ∀ (hk : Go l0_B C 0 0 60 [] [] y.2), Go l0_B C 0 0 33 [(0, .ref 37), (1, .ref 17), (2, .int x2)] [] h := by
  have hn4 : ∀ w ∈ wsX40, w ∈ wsX4_weigh := (fun _ hw => (List.mem_cons_of_mem _ (List.mem_append_left _ (List.mem_append_right _ hw))))
  intro n9
  induction n9 with
  | zero =>
    intro x2 h y hlp
    cases hlp
  | succ n9 ih =>
    intro x2 h y hlp hk
    obtain ⟨k9, z, hk9, hf, hy⟩ := lp_e hlp
    cases hk9
    replace hf : lb_X4_weigh_33  x2 h = some z := hf
    unfold lb_X4_weigh_33 at hf
    refine go_iload_n hC dX4_weigh_33 rfl 2 rfl ?_
    refine go_aload_n hC dX4_weigh_34 rfl 1 rfl ?_
    obtain ⟨r_21, hc, hf⟩ := bd_e1 hf
    refine go_callV hC (c_X6_all h r_21 hc) gX4_weigh_X6_all rfl ⟨rfl, rfl⟩ 0 e_X6_all ⟨Nat.le_of_ble_eq_true rfl, Nat.le_of_ble_eq_true rfl⟩ (b_17 _) rfl rfl (st := [.int x2]) (st1 := [.int r_21, .int x2]) rfl rfl (Nat.le_of_ble_eq_true rfl) ⟨Nat.zero_le _, Nat.zero_le _⟩ dX4_weigh_35 ?_
    refine go_icmp_gt hC dX4_weigh_38 (tgt := 60) (by decide) (fun c_28 => ?_) (fun c_28 => ?_)
    · replace hf := if_t c_28 hf
      obtain rfl := so_1 hf
      obtain rfl := lp_x hy
      refine go_sub [] rfl ?_
      exact hk
    · replace hf := if_f c_28 hf
      refine go_aload_n hC dX4_weigh_41 rfl 0 rfl ?_
      refine go_iload_n hC dX4_weigh_42 rfl 2 rfl ?_
      obtain ⟨r_22, hc, hf⟩ := bd_e1 hf
      refine go_callV hC (c_X4_isFitting x2 h r_22 hc) gX4_weigh_X4_isFitting rfl ⟨rfl, rfl⟩ 1 e_X4_isFitting ⟨Nat.le_of_ble_eq_true rfl, Nat.le_of_ble_eq_true rfl⟩ (b_37 _) rfl rfl (st := []) (st1 := [.int r_22]) rfl rfl (Nat.le_of_ble_eq_true rfl) ⟨Nat.zero_le _, Nat.zero_le _⟩ dX4_weigh_43 ?_
      refine go_if_eq hC dX4_weigh_46 (tgt := 54) (by decide) (fun c_27 => ?_) (fun c_27 => ?_)
      · replace hf := if_t c_27 hf
        obtain ⟨x2_23, ex2_23, hf⟩ := lt_e hf
        refine go_iinc hC dX4_weigh_54 2 rfl k1_1 ex2_23 (Nat.le_of_ble_eq_true rfl) rfl ?_
        refine go_goto hC dX4_weigh_57 (tgt := 33) (by decide) ?_
        obtain rfl := so_1 hf
        refine go_sub [1, 2, 0] rfl ?_
        exact ih x2_23 h _ (lp_c hy) hk
      · replace hf := if_f c_27 hf
        refine go_aload_n hC dX4_weigh_49 rfl 0 rfl ?_
        refine go_iload_n hC dX4_weigh_50 rfl 2 rfl ?_
        obtain ⟨r_24, h_25, hc, hf⟩ := bd_e2 hf
        refine go_callV hC (c_X4_countIn x2 h h_25 hc) gX4_weigh_X4_countIn rfl ⟨rfl, rfl⟩ 1 e_X4_countIn ⟨Nat.le_of_ble_eq_true rfl, Nat.le_of_ble_eq_true rfl⟩ (b_37 _) rfl rfl (st := []) (st1 := []) rfl rfl (Nat.le_of_ble_eq_true rfl) ⟨Nat.zero_le _, Nat.zero_le _⟩ dX4_weigh_51 ?_
        obtain ⟨x2_26, ex2_26, hf⟩ := lt_e hf
        refine go_iinc hC dX4_weigh_54 2 rfl k1_1 ex2_26 (Nat.le_of_ble_eq_true rfl) rfl ?_
        refine go_goto hC dX4_weigh_57 (tgt := 33) (by decide) ?_
        obtain rfl := so_1 hf
        refine go_sub [1, 2, 0] rfl ?_
        exact ih x2_26 h_25 _ (lp_c hy) hk
theorem e_X4_weigh : yX4_weigh.cls = RX4 ∧ yX4_weigh.cls ≠ "java/lang/invoke/MethodHandle" ∧ yX4_weigh.cls ≠ "java/lang/invoke/VarHandle" ∧ (parseMethodDescriptor yX4_weigh.desc).map (fun d => d.parameters.length) = some 1 := by decide +kernel
set_option maxRecDepth 100000 in
set_option maxHeartbeats 4000000 in
theorem c_X4_weigh (h : PH) (h2 : PH) (hf : f_X4_weigh h = some ((), h2)) : Con yX4_weigh wsX4_weigh (rm_d 1) l0_B [.ref 37, .ref 17] h none h2 := by
  have hn4 : ∀ w ∈ wsX40, w ∈ wsX4_weigh := (fun _ hw => (List.mem_cons_of_mem _ (List.mem_append_left _ (List.mem_append_right _ hw))))
  refine con_v (cc := cX4_weigh) (nL := 3) (by decide) rfl (Nat.le_of_ble_eq_true rfl) ?_
  intro C hC hret
  change Go l0_B C 0 0 0 [(0, .ref 37), (1, .ref 17)] [] h
  unfold f_X4_weigh at hf
  refine go_aload_n hC dX4_weigh_0 rfl 0 rfl ?_
  refine go_iconst hC dX4_weigh_1 k1_0 ?_
  obtain ⟨h_1, eh_1, hf⟩ := lt_e hf
  refine go_puti hC tyX4 (j := 1) (idx := 28) (nm := "fitting") (ds := "I") (b_37 _) rfl rfl hn4 tyX4_ok nmX4 (Nat.le_of_ble_eq_true rfl) rfl rfl (List.mem_cons_of_mem _ (List.mem_append_left _ (List.mem_append_left _ (List.mem_append_left _ (List.mem_of_getElem? (i := 0) rfl))))) (Or.inl rfl) rfl (tyX4_ok _ (Nat.le_of_ble_eq_true rfl)) dX4_weigh_2 ?_
  refine go_toph eh_1 ?_
  refine go_iconst hC dX4_weigh_5 k1_0 ?_
  refine go_istore_n hC dX4_weigh_6 rfl (Nat.le_of_ble_eq_true rfl) rfl ?_
  obtain ⟨s_10, hl, hf⟩ := bd_e1 hf
  refine go_sub [1, 2, 0] rfl ?_
  refine lw_X4_weigh_7 hC  _ 0 h_1 s_10 hl ?_
  refine go_aload_n hC dX4_weigh_26 rfl 0 rfl ?_
  refine go_aload_n hC dX4_weigh_27 rfl 1 rfl ?_
  obtain ⟨r_11, h_12, hc, hf⟩ := bd_e2 hf
  refine go_callV hC (c_X4_addUp s_10.2 h_12 hc) gX4_weigh_X4_addUp rfl ⟨rfl, rfl⟩ 1 e_X4_addUp ⟨Nat.le_of_ble_eq_true rfl, Nat.le_of_ble_eq_true rfl⟩ (b_37 _) rfl rfl (st := []) (st1 := []) rfl rfl (Nat.le_of_ble_eq_true rfl) ⟨Nat.zero_le _, Nat.zero_le _⟩ dX4_weigh_28 ?_
  refine go_iconst hC dX4_weigh_31 k1_0 ?_
  refine go_istore_n hC dX4_weigh_32 rfl (Nat.le_of_ble_eq_true rfl) rfl ?_
  obtain ⟨s_29, hl, hf⟩ := bd_e1 hf
  refine go_sub [1, 2, 0] rfl ?_
  refine lw_X4_weigh_33 hC  _ 0 h_12 s_29 hl ?_
  obtain ⟨-, rfl⟩ := so_2 hf
  exact hret _ _ dX4_weigh_60
def lb_X4_ofAll_4 (x1 : Int32) (h : PH) (x2 : Int32) (x3 : Int32) : Option ((Int32 × Int32) ⊕ (Int32 × Int32)) :=
  if x1 ≤ x3 then (
  some (.inr (x2, x3)))
  else (
  if (h.1 37 1) ≤ 0 then (
  some (.inr (x2, x3)))
  else (
  ga_i x3 8 (
  if (h.1 41 x3.toNatClampNeg) = (h.1 37 1) then (
  lt_b (x2 ||| ((1 : Int32) <<< (x3 &&& 31))) fun x2_12 =>
  lt_b (x3 + 1) fun x3_13 =>
  some (.inl (x2_12, x3_13)))
  else (
  lt_b (x2 ||| 0) fun x2_10 =>
  lt_b (x3 + 1) fun x3_11 =>
  some (.inl (x2_10, x3_11))))))
def f_X4_ofAll (x1 : Int32) (h : PH) : Option (Int32) :=
  bd_1 (lp_f (fun s => lb_X4_ofAll_4 x1 h s.1 s.2) fu_l (0, 0)) fun s_17 =>
  some s_17.1
set_option maxRecDepth 100000 in
set_option maxHeartbeats 4000000 in
theorem lw_X4_ofAll_4 {C : GC} (hC : Cx C cX4_ofAll 4 wsX4_ofAll RX4 (some .int) (rm_d 0)) (x1 : Int32) (h : PH) : ∀ (n9 : Nat) (x2 : Int32) (x3 : Int32) (y : Int32 × Int32), lp_f (fun s => lb_X4_ofAll_4 x1 h s.1 s.2) n9 (x2, x3) = some y → ∀ (hk : Go l0_B C 0 0 45 [(2, .int y.1)] [] h), Go l0_B C 0 0 4 [(0, .ref 37), (1, .int x1), (2, .int x2), (3, .int x3)] [] h := by
  have hn4 : ∀ w ∈ wsX40, w ∈ wsX4_ofAll := (fun _ hw => (List.mem_cons_of_mem _ (List.mem_append_right _ hw)))
  intro n9
  induction n9 with
  | zero =>
    intro x2 x3 y hlp
    cases hlp
  | succ n9 ih =>
    intro x2 x3 y hlp hk
    obtain ⟨k9, z, hk9, hf, hy⟩ := lp_e hlp
    cases hk9
    replace hf : lb_X4_ofAll_4 x1 h x2 x3 = some z := hf
    unfold lb_X4_ofAll_4 at hf
    refine go_iload_n hC dX4_ofAll_4 rfl 3 rfl ?_
    refine go_iload_n hC dX4_ofAll_5 rfl 1 rfl ?_
    refine go_icmp_ge hC dX4_ofAll_6 (tgt := 45) (by decide) (fun c_16 => ?_) (fun c_16 => ?_)
    · replace hf := if_t c_16 hf
      obtain rfl := so_1 hf
      obtain rfl := lp_x hy
      refine go_sub [2] rfl ?_
      exact hk
    · replace hf := if_f c_16 hf
      refine go_aload_n hC dX4_ofAll_9 rfl 0 rfl ?_
      refine go_geti hC (j := 1) (idx := 28) (nm := "fitting") (ds := "I") (b_37 _) rfl rfl hn4 (Nat.le_of_ble_eq_true rfl) rfl rfl (List.mem_cons_of_mem _ (List.mem_append_left _ (List.mem_of_getElem? (i := 0) rfl))) (Or.inl rfl) dX4_ofAll_10 ?_
      refine go_if_le hC dX4_ofAll_13 (tgt := 45) (by decide) (fun c_15 => ?_) (fun c_15 => ?_)
      · replace hf := if_t c_15 hf
        obtain rfl := so_1 hf
        obtain rfl := lp_x hy
        refine go_sub [2] rfl ?_
        exact hk
      · replace hf := if_f c_15 hf
        refine go_iload_n hC dX4_ofAll_16 rfl 2 rfl ?_
        refine go_aload_n hC dX4_ofAll_17 rfl 0 rfl ?_
        refine go_getr hC (j := 5) (idx := 21) (nm := "fittingWith") (ds := "[I") (b_37 _) rfl rfl hn4 (Nat.le_of_ble_eq_true rfl) rfl rfl (List.mem_cons_of_mem _ (List.mem_append_left _ (List.mem_of_getElem? (i := 1) rfl))) (Or.inl rfl) dX4_ofAll_18 ?_
        refine go_iload_n hC dX4_ofAll_21 rfl 3 rfl ?_
        obtain ⟨g_9, hf⟩ := ga_e hf
        refine go_iald hC (b_41 _) g_9 dX4_ofAll_22 ?_
        refine go_aload_n hC dX4_ofAll_23 rfl 0 rfl ?_
        refine go_geti hC (j := 1) (idx := 28) (nm := "fitting") (ds := "I") (b_37 _) rfl rfl hn4 (Nat.le_of_ble_eq_true rfl) rfl rfl (List.mem_cons_of_mem _ (List.mem_append_left _ (List.mem_of_getElem? (i := 0) rfl))) (Or.inl rfl) dX4_ofAll_24 ?_
        refine go_icmp_ne hC dX4_ofAll_27 (tgt := 36) (by decide) (fun c_14 => ?_) (fun c_14 => ?_)
        · replace hf := if_f c_14 hf
          refine go_iconst hC dX4_ofAll_36 k1_0 ?_
          refine go_ior hC dX4_ofAll_37 ?_
          obtain ⟨x2_10, ex2_10, hf⟩ := lt_e hf
          refine go_topi ex2_10 ?_
          refine go_istore_n hC dX4_ofAll_38 rfl (Nat.le_of_ble_eq_true rfl) rfl ?_
          obtain ⟨x3_11, ex3_11, hf⟩ := lt_e hf
          refine go_iinc hC dX4_ofAll_39 3 rfl k1_1 ex3_11 (Nat.le_of_ble_eq_true rfl) rfl ?_
          refine go_goto hC dX4_ofAll_42 (tgt := 4) (by decide) ?_
          obtain rfl := so_1 hf
          refine go_sub [2, 3, 1, 0] rfl ?_
          exact ih x2_10 x3_11 _ (lp_c hy) hk
        · replace hf := if_t c_14 hf
          refine go_iconst hC dX4_ofAll_30 k1_1 ?_
          refine go_iload_n hC dX4_ofAll_31 rfl 3 rfl ?_
          refine go_ishl hC dX4_ofAll_32 ?_
          refine go_goto hC dX4_ofAll_33 (tgt := 37) (by decide) ?_
          refine go_ior hC dX4_ofAll_37 ?_
          obtain ⟨x2_12, ex2_12, hf⟩ := lt_e hf
          refine go_topi ex2_12 ?_
          refine go_istore_n hC dX4_ofAll_38 rfl (Nat.le_of_ble_eq_true rfl) rfl ?_
          obtain ⟨x3_13, ex3_13, hf⟩ := lt_e hf
          refine go_iinc hC dX4_ofAll_39 3 rfl k1_1 ex3_13 (Nat.le_of_ble_eq_true rfl) rfl ?_
          refine go_goto hC dX4_ofAll_42 (tgt := 4) (by decide) ?_
          obtain rfl := so_1 hf
          refine go_sub [2, 3, 1, 0] rfl ?_
          exact ih x2_12 x3_13 _ (lp_c hy) hk
theorem e_X4_ofAll : yX4_ofAll.cls = RX4 ∧ yX4_ofAll.cls ≠ "java/lang/invoke/MethodHandle" ∧ yX4_ofAll.cls ≠ "java/lang/invoke/VarHandle" ∧ (parseMethodDescriptor yX4_ofAll.desc).map (fun d => d.parameters.length) = some 1 := by decide +kernel
set_option maxRecDepth 100000 in
set_option maxHeartbeats 4000000 in
theorem c_X4_ofAll (x1 : Int32) (h : PH) (r : Int32) (hf : f_X4_ofAll x1 h = some r) : Con yX4_ofAll wsX4_ofAll (rm_d 0) l0_B [.ref 37, .int x1] h (some (.int r)) h := by
  have hn4 : ∀ w ∈ wsX40, w ∈ wsX4_ofAll := (fun _ hw => (List.mem_cons_of_mem _ (List.mem_append_right _ hw)))
  refine con_i (ty := .int) (cc := cX4_ofAll) (nL := 4) (by decide) rfl (Nat.le_of_ble_eq_true rfl) ?_
  intro C hC hret
  change Go l0_B C 0 0 0 [(0, .ref 37), (1, .int x1)] [] h
  unfold f_X4_ofAll at hf
  refine go_iconst hC dX4_ofAll_0 k1_0 ?_
  refine go_istore_n hC dX4_ofAll_1 rfl (Nat.le_of_ble_eq_true rfl) rfl ?_
  refine go_iconst hC dX4_ofAll_2 k1_0 ?_
  refine go_istore_n hC dX4_ofAll_3 rfl (Nat.le_of_ble_eq_true rfl) rfl ?_
  obtain ⟨s_17, hl, hf⟩ := bd_e1 hf
  refine go_sub [2, 3, 1, 0] rfl ?_
  refine lw_X4_ofAll_4 hC x1 h _ 0 0 s_17 hl ?_
  refine go_iload_n hC dX4_ofAll_45 rfl 0 rfl ?_
  obtain rfl := so_1 hf
  exact hret _ _ rfl dX4_ofAll_46
def lb_X4_ofNone_4 (x1 : Int32) (h : PH) (x2 : Int32) (x3 : Int32) : Option ((Int32 × Int32) ⊕ (Int32 × Int32)) :=
  if x1 ≤ x3 then (
  some (.inr (x2, x3)))
  else (
  if (h.1 37 1) ≤ 0 then (
  some (.inr (x2, x3)))
  else (
  ga_i x3 8 (
  if (h.1 41 x3.toNatClampNeg) = 0 then (
  lt_b (x2 ||| ((1 : Int32) <<< (x3 &&& 31))) fun x2_12 =>
  lt_b (x3 + 1) fun x3_13 =>
  some (.inl (x2_12, x3_13)))
  else (
  lt_b (x2 ||| 0) fun x2_10 =>
  lt_b (x3 + 1) fun x3_11 =>
  some (.inl (x2_10, x3_11))))))
def f_X4_ofNone (x1 : Int32) (h : PH) : Option (Int32) :=
  bd_1 (lp_f (fun s => lb_X4_ofNone_4 x1 h s.1 s.2) fu_l (0, 0)) fun s_17 =>
  some s_17.1
set_option maxRecDepth 100000 in
set_option maxHeartbeats 4000000 in
theorem lw_X4_ofNone_4 {C : GC} (hC : Cx C cX4_ofNone 4 wsX4_ofNone RX4 (some .int) (rm_d 0)) (x1 : Int32) (h : PH) : ∀ (n9 : Nat) (x2 : Int32) (x3 : Int32) (y : Int32 × Int32), lp_f (fun s => lb_X4_ofNone_4 x1 h s.1 s.2) n9 (x2, x3) = some y → ∀ (hk : Go l0_B C 0 0 41 [(2, .int y.1)] [] h), Go l0_B C 0 0 4 [(0, .ref 37), (1, .int x1), (2, .int x2), (3, .int x3)] [] h := by
  have hn4 : ∀ w ∈ wsX40, w ∈ wsX4_ofNone := (fun _ hw => (List.mem_cons_of_mem _ (List.mem_append_right _ hw)))
  intro n9
  induction n9 with
  | zero =>
    intro x2 x3 y hlp
    cases hlp
  | succ n9 ih =>
    intro x2 x3 y hlp hk
    obtain ⟨k9, z, hk9, hf, hy⟩ := lp_e hlp
    cases hk9
    replace hf : lb_X4_ofNone_4 x1 h x2 x3 = some z := hf
    unfold lb_X4_ofNone_4 at hf
    refine go_iload_n hC dX4_ofNone_4 rfl 3 rfl ?_
    refine go_iload_n hC dX4_ofNone_5 rfl 1 rfl ?_
    refine go_icmp_ge hC dX4_ofNone_6 (tgt := 41) (by decide) (fun c_16 => ?_) (fun c_16 => ?_)
    · replace hf := if_t c_16 hf
      obtain rfl := so_1 hf
      obtain rfl := lp_x hy
      refine go_sub [2] rfl ?_
      exact hk
    · replace hf := if_f c_16 hf
      refine go_aload_n hC dX4_ofNone_9 rfl 0 rfl ?_
      refine go_geti hC (j := 1) (idx := 28) (nm := "fitting") (ds := "I") (b_37 _) rfl rfl hn4 (Nat.le_of_ble_eq_true rfl) rfl rfl (List.mem_cons_of_mem _ (List.mem_append_left _ (List.mem_of_getElem? (i := 0) rfl))) (Or.inl rfl) dX4_ofNone_10 ?_
      refine go_if_le hC dX4_ofNone_13 (tgt := 41) (by decide) (fun c_15 => ?_) (fun c_15 => ?_)
      · replace hf := if_t c_15 hf
        obtain rfl := so_1 hf
        obtain rfl := lp_x hy
        refine go_sub [2] rfl ?_
        exact hk
      · replace hf := if_f c_15 hf
        refine go_iload_n hC dX4_ofNone_16 rfl 2 rfl ?_
        refine go_aload_n hC dX4_ofNone_17 rfl 0 rfl ?_
        refine go_getr hC (j := 5) (idx := 21) (nm := "fittingWith") (ds := "[I") (b_37 _) rfl rfl hn4 (Nat.le_of_ble_eq_true rfl) rfl rfl (List.mem_cons_of_mem _ (List.mem_append_left _ (List.mem_of_getElem? (i := 1) rfl))) (Or.inl rfl) dX4_ofNone_18 ?_
        refine go_iload_n hC dX4_ofNone_21 rfl 3 rfl ?_
        obtain ⟨g_9, hf⟩ := ga_e hf
        refine go_iald hC (b_41 _) g_9 dX4_ofNone_22 ?_
        refine go_if_ne hC dX4_ofNone_23 (tgt := 32) (by decide) (fun c_14 => ?_) (fun c_14 => ?_)
        · replace hf := if_f c_14 hf
          refine go_iconst hC dX4_ofNone_32 k1_0 ?_
          refine go_ior hC dX4_ofNone_33 ?_
          obtain ⟨x2_10, ex2_10, hf⟩ := lt_e hf
          refine go_topi ex2_10 ?_
          refine go_istore_n hC dX4_ofNone_34 rfl (Nat.le_of_ble_eq_true rfl) rfl ?_
          obtain ⟨x3_11, ex3_11, hf⟩ := lt_e hf
          refine go_iinc hC dX4_ofNone_35 3 rfl k1_1 ex3_11 (Nat.le_of_ble_eq_true rfl) rfl ?_
          refine go_goto hC dX4_ofNone_38 (tgt := 4) (by decide) ?_
          obtain rfl := so_1 hf
          refine go_sub [2, 3, 1, 0] rfl ?_
          exact ih x2_10 x3_11 _ (lp_c hy) hk
        · replace hf := if_t c_14 hf
          refine go_iconst hC dX4_ofNone_26 k1_1 ?_
          refine go_iload_n hC dX4_ofNone_27 rfl 3 rfl ?_
          refine go_ishl hC dX4_ofNone_28 ?_
          refine go_goto hC dX4_ofNone_29 (tgt := 33) (by decide) ?_
          refine go_ior hC dX4_ofNone_33 ?_
          obtain ⟨x2_12, ex2_12, hf⟩ := lt_e hf
          refine go_topi ex2_12 ?_
          refine go_istore_n hC dX4_ofNone_34 rfl (Nat.le_of_ble_eq_true rfl) rfl ?_
          obtain ⟨x3_13, ex3_13, hf⟩ := lt_e hf
          refine go_iinc hC dX4_ofNone_35 3 rfl k1_1 ex3_13 (Nat.le_of_ble_eq_true rfl) rfl ?_
          refine go_goto hC dX4_ofNone_38 (tgt := 4) (by decide) ?_
          obtain rfl := so_1 hf
          refine go_sub [2, 3, 1, 0] rfl ?_
          exact ih x2_12 x3_13 _ (lp_c hy) hk
theorem e_X4_ofNone : yX4_ofNone.cls = RX4 ∧ yX4_ofNone.cls ≠ "java/lang/invoke/MethodHandle" ∧ yX4_ofNone.cls ≠ "java/lang/invoke/VarHandle" ∧ (parseMethodDescriptor yX4_ofNone.desc).map (fun d => d.parameters.length) = some 1 := by decide +kernel
set_option maxRecDepth 100000 in
set_option maxHeartbeats 4000000 in
theorem c_X4_ofNone (x1 : Int32) (h : PH) (r : Int32) (hf : f_X4_ofNone x1 h = some r) : Con yX4_ofNone wsX4_ofNone (rm_d 0) l0_B [.ref 37, .int x1] h (some (.int r)) h := by
  have hn4 : ∀ w ∈ wsX40, w ∈ wsX4_ofNone := (fun _ hw => (List.mem_cons_of_mem _ (List.mem_append_right _ hw)))
  refine con_i (ty := .int) (cc := cX4_ofNone) (nL := 4) (by decide) rfl (Nat.le_of_ble_eq_true rfl) ?_
  intro C hC hret
  change Go l0_B C 0 0 0 [(0, .ref 37), (1, .int x1)] [] h
  unfold f_X4_ofNone at hf
  refine go_iconst hC dX4_ofNone_0 k1_0 ?_
  refine go_istore_n hC dX4_ofNone_1 rfl (Nat.le_of_ble_eq_true rfl) rfl ?_
  refine go_iconst hC dX4_ofNone_2 k1_0 ?_
  refine go_istore_n hC dX4_ofNone_3 rfl (Nat.le_of_ble_eq_true rfl) rfl ?_
  obtain ⟨s_17, hl, hf⟩ := bd_e1 hf
  refine go_sub [2, 3, 1, 0] rfl ?_
  refine lw_X4_ofNone_4 hC x1 h _ 0 0 s_17 hl ?_
  refine go_iload_n hC dX4_ofNone_41 rfl 0 rfl ?_
  obtain rfl := so_1 hf
  exact hret _ _ rfl dX4_ofNone_42
def lb_X4_mostEven_13 (x1 : Int32) (h : PH) (x2 : Int32) (x3 : Int32) (x4 : Int32) : Option ((Int32 × Int32 × Int32) ⊕ (Int32 × Int32 × Int32)) :=
  if x1 ≤ x4 then (
  some (.inr (x2, x3, x4)))
  else (
  ga_i x4 8 (
  ga_i x4 8 (
  lt_b (if (h.1 41 x4.toNatClampNeg) < ((h.1 37 1) - (h.1 41 x4.toNatClampNeg)) then ((h.1 37 1) - (h.1 41 x4.toNatClampNeg)) else (h.1 41 x4.toNatClampNeg)) fun x5_11 =>
  if x3 ≤ x5_11 then (
  lt_b (x4 + 1) fun x4_12 =>
  some (.inl (x2, x3, x4_12)))
  else (
  lt_b (x4 + 1) fun x4_13 =>
  some (.inl (x4, x5_11, x4_13))))))
def f_X4_mostEven (x1 : Int32) (h : PH) : Option (Int32) :=
  lt_b ((h.1 37 1) + 1) fun x3_1 =>
  bd_1 (lp_f (fun s => lb_X4_mostEven_13 x1 h s.1 s.2.1 s.2.2) fu_l ((-9), x3_1, 0)) fun s_16 =>
  some s_16.1
set_option maxRecDepth 100000 in
set_option maxHeartbeats 4000000 in
theorem lw_X4_mostEven_13 {C : GC} (hC : Cx C cX4_mostEven 6 wsX4_mostEven RX4 (some .int) (rm_d 1)) (x1 : Int32) (h : PH) : ∀ (n9 : Nat) (x2 : Int32) (x3 : Int32) (x4 : Int32) (y : Int32 × Int32 × Int32), lp_f (fun s => lb_X4_mostEven_13 x1 h s.1 s.2.1 s.2.2) n9 (x2, x3, x4) = some y → ∀ (hk : Go l0_B C 0 0 61 [(2, .int y.1)] [] h), Go l0_B C 0 0 13 [(0, .ref 37), (1, .int x1), (2, .int x2), (3, .int x3), (4, .int x4)] [] h := by
  have hn4 : ∀ w ∈ wsX40, w ∈ wsX4_mostEven := (fun _ hw => (List.mem_cons_of_mem _ (List.mem_append_right _ hw)))
  intro n9
  induction n9 with
  | zero =>
    intro x2 x3 x4 y hlp
    cases hlp
  | succ n9 ih =>
    intro x2 x3 x4 y hlp hk
    obtain ⟨k9, z, hk9, hf, hy⟩ := lp_e hlp
    cases hk9
    replace hf : lb_X4_mostEven_13 x1 h x2 x3 x4 = some z := hf
    unfold lb_X4_mostEven_13 at hf
    refine go_iload hC dX4_mostEven_13 4 rfl ?_
    refine go_iload_n hC dX4_mostEven_15 rfl 1 rfl ?_
    refine go_icmp_ge hC dX4_mostEven_16 (tgt := 61) (by decide) (fun c_15 => ?_) (fun c_15 => ?_)
    · replace hf := if_t c_15 hf
      obtain rfl := so_1 hf
      obtain rfl := lp_x hy
      refine go_sub [2] rfl ?_
      exact hk
    · replace hf := if_f c_15 hf
      refine go_aload_n hC dX4_mostEven_19 rfl 0 rfl ?_
      refine go_getr hC (j := 5) (idx := 21) (nm := "fittingWith") (ds := "[I") (b_37 _) rfl rfl hn4 (Nat.le_of_ble_eq_true rfl) rfl rfl (List.mem_cons_of_mem _ (List.mem_append_left _ (List.mem_of_getElem? (i := 1) rfl))) (Or.inl rfl) dX4_mostEven_20 ?_
      refine go_iload hC dX4_mostEven_23 4 rfl ?_
      obtain ⟨g_9, hf⟩ := ga_e hf
      refine go_iald hC (b_41 _) g_9 dX4_mostEven_25 ?_
      refine go_aload_n hC dX4_mostEven_26 rfl 0 rfl ?_
      refine go_geti hC (j := 1) (idx := 28) (nm := "fitting") (ds := "I") (b_37 _) rfl rfl hn4 (Nat.le_of_ble_eq_true rfl) rfl rfl (List.mem_cons_of_mem _ (List.mem_append_left _ (List.mem_of_getElem? (i := 0) rfl))) (Or.inl rfl) dX4_mostEven_27 ?_
      refine go_aload_n hC dX4_mostEven_30 rfl 0 rfl ?_
      refine go_getr hC (j := 5) (idx := 21) (nm := "fittingWith") (ds := "[I") (b_37 _) rfl rfl hn4 (Nat.le_of_ble_eq_true rfl) rfl rfl (List.mem_cons_of_mem _ (List.mem_append_left _ (List.mem_of_getElem? (i := 1) rfl))) (Or.inl rfl) dX4_mostEven_31 ?_
      refine go_iload hC dX4_mostEven_34 4 rfl ?_
      obtain ⟨g_10, hf⟩ := ga_e hf
      refine go_iald hC (b_41 _) g_10 dX4_mostEven_36 ?_
      refine go_isub hC dX4_mostEven_37 ?_
      refine go_max hC (List.mem_cons_of_mem _ (List.mem_append_left _ (List.mem_of_getElem? (i := 2) rfl))) (List.mem_cons_of_mem _ (List.mem_append_left _ (List.mem_of_getElem? (i := 3) rfl))) (List.mem_cons_of_mem _ (List.mem_append_left _ (List.mem_of_getElem? (i := 4) rfl))) (List.mem_cons_of_mem _ (List.mem_append_left _ (List.mem_of_getElem? (i := 5) rfl))) ⟨Nat.le_of_ble_eq_true rfl, Nat.le_of_ble_eq_true rfl⟩ ⟨Nat.zero_le _, Nat.zero_le _⟩ dX4_mostEven_38 ?_
      obtain ⟨x5_11, ex5_11, hf⟩ := lt_e hf
      refine go_topi ex5_11 ?_
      refine go_istore hC dX4_mostEven_41 (Nat.le_of_ble_eq_true rfl) rfl ?_
      refine go_iload hC dX4_mostEven_43 0 rfl ?_
      refine go_iload_n hC dX4_mostEven_45 rfl 4 rfl ?_
      refine go_icmp_ge hC dX4_mostEven_46 (tgt := 55) (by decide) (fun c_14 => ?_) (fun c_14 => ?_)
      · replace hf := if_t c_14 hf
        obtain ⟨x4_12, ex4_12, hf⟩ := lt_e hf
        refine go_iinc hC dX4_mostEven_55 5 rfl k1_1 ex4_12 (Nat.le_of_ble_eq_true rfl) rfl ?_
        refine go_goto hC dX4_mostEven_58 (tgt := 13) (by decide) ?_
        obtain rfl := so_1 hf
        refine go_sub [2, 3, 4, 5, 0] rfl ?_
        exact ih x2 x3 x4_12 _ (lp_c hy) hk
      · replace hf := if_f c_14 hf
        refine go_iload hC dX4_mostEven_49 0 rfl ?_
        refine go_istore_n hC dX4_mostEven_51 rfl (Nat.le_of_ble_eq_true rfl) rfl ?_
        refine go_iload hC dX4_mostEven_52 5 rfl ?_
        refine go_istore_n hC dX4_mostEven_54 rfl (Nat.le_of_ble_eq_true rfl) rfl ?_
        obtain ⟨x4_13, ex4_13, hf⟩ := lt_e hf
        refine go_iinc hC dX4_mostEven_55 5 rfl k1_1 ex4_13 (Nat.le_of_ble_eq_true rfl) rfl ?_
        refine go_goto hC dX4_mostEven_58 (tgt := 13) (by decide) ?_
        obtain rfl := so_1 hf
        refine go_sub [4, 5, 1, 2, 0] rfl ?_
        exact ih x4 x5_11 x4_13 _ (lp_c hy) hk
theorem e_X4_mostEven : yX4_mostEven.cls = RX4 ∧ yX4_mostEven.cls ≠ "java/lang/invoke/MethodHandle" ∧ yX4_mostEven.cls ≠ "java/lang/invoke/VarHandle" ∧ (parseMethodDescriptor yX4_mostEven.desc).map (fun d => d.parameters.length) = some 1 := by decide +kernel
set_option maxRecDepth 100000 in
set_option maxHeartbeats 4000000 in
theorem c_X4_mostEven (x1 : Int32) (h : PH) (r : Int32) (hf : f_X4_mostEven x1 h = some r) : Con yX4_mostEven wsX4_mostEven (rm_d 1) l0_B [.ref 37, .int x1] h (some (.int r)) h := by
  have hn4 : ∀ w ∈ wsX40, w ∈ wsX4_mostEven := (fun _ hw => (List.mem_cons_of_mem _ (List.mem_append_right _ hw)))
  refine con_i (ty := .int) (cc := cX4_mostEven) (nL := 6) (by decide) rfl (Nat.le_of_ble_eq_true rfl) ?_
  intro C hC hret
  change Go l0_B C 0 0 0 [(0, .ref 37), (1, .int x1)] [] h
  unfold f_X4_mostEven at hf
  refine go_bipush hC dX4_mostEven_0 k8_m9 ?_
  refine go_istore_n hC dX4_mostEven_2 rfl (Nat.le_of_ble_eq_true rfl) rfl ?_
  refine go_aload_n hC dX4_mostEven_3 rfl 1 rfl ?_
  refine go_geti hC (j := 1) (idx := 28) (nm := "fitting") (ds := "I") (b_37 _) rfl rfl hn4 (Nat.le_of_ble_eq_true rfl) rfl rfl (List.mem_cons_of_mem _ (List.mem_append_left _ (List.mem_of_getElem? (i := 0) rfl))) (Or.inl rfl) dX4_mostEven_4 ?_
  refine go_iconst hC dX4_mostEven_7 k1_1 ?_
  refine go_iadd hC dX4_mostEven_8 ?_
  obtain ⟨x3_1, ex3_1, hf⟩ := lt_e hf
  refine go_topi ex3_1 ?_
  refine go_istore_n hC dX4_mostEven_9 rfl (Nat.le_of_ble_eq_true rfl) rfl ?_
  refine go_iconst hC dX4_mostEven_10 k1_0 ?_
  refine go_istore hC dX4_mostEven_11 (Nat.le_of_ble_eq_true rfl) rfl ?_
  obtain ⟨s_16, hl, hf⟩ := bd_e1 hf
  refine go_sub [3, 4, 2, 1, 0] rfl ?_
  refine lw_X4_mostEven_13 hC x1 h _ (-9) x3_1 0 s_16 hl ?_
  refine go_iload_n hC dX4_mostEven_61 rfl 0 rfl ?_
  obtain rfl := so_1 hf
  exact hret _ _ rfl dX4_mostEven_62
def lb_X5_gatherRooms_2  (x2 : Int32) (h : PH) : Option ((Int32 × PH) ⊕ (Int32 × PH)) :=
  if 6 ≤ x2 then (
  some (.inr (x2, h)))
  else (
  ga_i x2 6 (
  lt_b (ph_i h 33 x2.toNatClampNeg 0) fun h_6 =>
  lt_b (x2 + 1) fun x2_7 =>
  some (.inl (x2_7, h_6))))
def lb_X5_gatherRooms_23  (x2 : Int32) (h : PH) : Option ((Int32 × PH) ⊕ (Int32 × PH)) :=
  if (h.1 17 0) ≤ x2 then (
  some (.inr (x2, h)))
  else (
  ga_i x2 8 (
  ga_i (h.1 20 x2.toNatClampNeg) 6 (
  ga_i (h.1 20 x2.toNatClampNeg) 6 (
  lt_b (ph_i h 33 (h.1 20 x2.toNatClampNeg).toNatClampNeg ((h.1 33 (h.1 20 x2.toNatClampNeg).toNatClampNeg) ||| ((1 : Int32) <<< (x2 &&& 31)))) fun h_19 =>
  lt_b (x2 + 1) fun x2_20 =>
  some (.inl (x2_20, h_19))))))
def f_X5_gatherRooms (h : PH) : Option (Unit × PH) :=
  bd_1 (lp_f (fun s => lb_X5_gatherRooms_2  s.1 s.2) fu_l (0, h)) fun s_9 =>
  bd_1 (lp_f (fun s => lb_X5_gatherRooms_23  s.1 s.2) fu_l (0, s_9.2)) fun s_22 =>
  some ((), s_22.2)
set_option maxRecDepth 100000 in
set_option maxHeartbeats 4000000 in
theorem lw_X5_gatherRooms_2 {C : GC} (hC : Cx C cX5_gatherRooms 3 wsX5_gatherRooms RX5 none (rm_d 0))  : ∀ (n9 : Nat) (x2 : Int32) (h : PH) (y : Int32 × PH), lp_f (fun s => lb_X5_gatherRooms_2  s.1 s.2) n9 (x2, h) = some y → ∀ (hk : Go l0_B C 0 0 21 [(0, .ref 27), (1, .ref 17)] [] y.2), Go l0_B C 0 0 2 [(0, .ref 27), (1, .ref 17), (2, .int x2)] [] h := by
  have hn5 : ∀ w ∈ wsX50, w ∈ wsX5_gatherRooms := (fun _ hw => (List.mem_cons_of_mem _ (List.mem_append_left _ (List.mem_append_right _ hw))))
  intro n9
  induction n9 with
  | zero =>
    intro x2 h y hlp
    cases hlp
  | succ n9 ih =>
    intro x2 h y hlp hk
    obtain ⟨k9, z, hk9, hf, hy⟩ := lp_e hlp
    cases hk9
    replace hf : lb_X5_gatherRooms_2  x2 h = some z := hf
    unfold lb_X5_gatherRooms_2 at hf
    refine go_iload_n hC dX5_gatherRooms_2 rfl 2 rfl ?_
    refine go_bipush hC dX5_gatherRooms_3 k8_6 ?_
    refine go_icmp_ge hC dX5_gatherRooms_5 (tgt := 21) (by decide) (fun c_8 => ?_) (fun c_8 => ?_)
    · replace hf := if_t c_8 hf
      obtain rfl := so_1 hf
      obtain rfl := lp_x hy
      refine go_sub [0, 1] rfl ?_
      exact hk
    · replace hf := if_f c_8 hf
      refine go_aload_n hC dX5_gatherRooms_8 rfl 0 rfl ?_
      refine go_getr hC (j := 5) (idx := 27) (nm := "rooms") (ds := "[I") (b_27 _) rfl rfl hn5 (Nat.le_of_ble_eq_true rfl) rfl rfl (List.mem_cons_of_mem _ (List.mem_append_left _ (List.mem_append_left _ (List.mem_of_getElem? (i := 0) rfl)))) (Or.inl rfl) dX5_gatherRooms_9 ?_
      refine go_iload_n hC dX5_gatherRooms_12 rfl 2 rfl ?_
      refine go_iconst hC dX5_gatherRooms_13 k1_0 ?_
      obtain ⟨g_5, hf⟩ := ga_e hf
      obtain ⟨h_6, eh_6, hf⟩ := lt_e hf
      refine go_iast hC (b_33 _) g_5 dX5_gatherRooms_14 ?_
      refine go_toph eh_6 ?_
      obtain ⟨x2_7, ex2_7, hf⟩ := lt_e hf
      refine go_iinc hC dX5_gatherRooms_15 2 rfl k1_1 ex2_7 (Nat.le_of_ble_eq_true rfl) rfl ?_
      refine go_goto hC dX5_gatherRooms_18 (tgt := 2) (by decide) ?_
      obtain rfl := so_1 hf
      refine go_sub [1, 2, 0] rfl ?_
      exact ih x2_7 h_6 _ (lp_c hy) hk
set_option maxRecDepth 100000 in
set_option maxHeartbeats 4000000 in
theorem lw_X5_gatherRooms_23 {C : GC} (hC : Cx C cX5_gatherRooms 3 wsX5_gatherRooms RX5 none (rm_d 0))  : ∀ (n9 : Nat) (x2 : Int32) (h : PH) (y : Int32 × PH), lp_f (fun s => lb_X5_gatherRooms_23  s.1 s.2) n9 (x2, h) = some y → ∀ (hk : Go l0_B C 0 0 54 [] [] y.2), Go l0_B C 0 0 23 [(0, .ref 27), (1, .ref 17), (2, .int x2)] [] h := by
  have hn5 : ∀ w ∈ wsX50, w ∈ wsX5_gatherRooms := (fun _ hw => (List.mem_cons_of_mem _ (List.mem_append_left _ (List.mem_append_right _ hw))))
  have hn6 : ∀ w ∈ wsX60, w ∈ wsX5_gatherRooms := (fun _ hw => (List.mem_cons_of_mem _ (List.mem_append_right _ hw)))
  intro n9
  induction n9 with
  | zero =>
    intro x2 h y hlp
    cases hlp
  | succ n9 ih =>
    intro x2 h y hlp hk
    obtain ⟨k9, z, hk9, hf, hy⟩ := lp_e hlp
    cases hk9
    replace hf : lb_X5_gatherRooms_23  x2 h = some z := hf
    unfold lb_X5_gatherRooms_23 at hf
    refine go_iload_n hC dX5_gatherRooms_23 rfl 2 rfl ?_
    refine go_aload_n hC dX5_gatherRooms_24 rfl 1 rfl ?_
    refine go_geti hC (j := 0) (idx := 53) (nm := "count") (ds := "I") (b_17 _) rfl rfl hn6 (Nat.le_of_ble_eq_true rfl) rfl rfl (List.mem_cons_of_mem _ (List.mem_append_left _ (List.mem_append_left _ (List.mem_of_getElem? (i := 1) rfl)))) (Or.inl rfl) dX5_gatherRooms_25 ?_
    refine go_icmp_ge hC dX5_gatherRooms_28 (tgt := 54) (by decide) (fun c_21 => ?_) (fun c_21 => ?_)
    · replace hf := if_t c_21 hf
      obtain rfl := so_1 hf
      obtain rfl := lp_x hy
      refine go_sub [] rfl ?_
      exact hk
    · replace hf := if_f c_21 hf
      refine go_aload_n hC dX5_gatherRooms_31 rfl 0 rfl ?_
      refine go_getr hC (j := 5) (idx := 27) (nm := "rooms") (ds := "[I") (b_27 _) rfl rfl hn5 (Nat.le_of_ble_eq_true rfl) rfl rfl (List.mem_cons_of_mem _ (List.mem_append_left _ (List.mem_append_left _ (List.mem_of_getElem? (i := 0) rfl)))) (Or.inl rfl) dX5_gatherRooms_32 ?_
      refine go_aload_n hC dX5_gatherRooms_35 rfl 1 rfl ?_
      refine go_getr hC (j := 3) (idx := 58) (nm := "rooms") (ds := "[I") (b_17 _) rfl rfl hn6 (Nat.le_of_ble_eq_true rfl) rfl rfl (List.mem_cons_of_mem _ (List.mem_append_left _ (List.mem_append_left _ (List.mem_of_getElem? (i := 2) rfl)))) (Or.inl rfl) dX5_gatherRooms_36 ?_
      refine go_iload_n hC dX5_gatherRooms_39 rfl 2 rfl ?_
      obtain ⟨g_16, hf⟩ := ga_e hf
      refine go_iald hC (b_20 _) g_16 dX5_gatherRooms_40 ?_
      refine go_dup2 hC dX5_gatherRooms_41 rfl rfl ?_
      obtain ⟨g_17, hf⟩ := ga_e hf
      refine go_iald hC (b_33 _) g_17 dX5_gatherRooms_42 ?_
      refine go_iconst hC dX5_gatherRooms_43 k1_1 ?_
      refine go_iload_n hC dX5_gatherRooms_44 rfl 2 rfl ?_
      refine go_ishl hC dX5_gatherRooms_45 ?_
      refine go_ior hC dX5_gatherRooms_46 ?_
      obtain ⟨g_18, hf⟩ := ga_e hf
      obtain ⟨h_19, eh_19, hf⟩ := lt_e hf
      refine go_iast hC (b_33 _) g_18 dX5_gatherRooms_47 ?_
      refine go_toph eh_19 ?_
      obtain ⟨x2_20, ex2_20, hf⟩ := lt_e hf
      refine go_iinc hC dX5_gatherRooms_48 2 rfl k1_1 ex2_20 (Nat.le_of_ble_eq_true rfl) rfl ?_
      refine go_goto hC dX5_gatherRooms_51 (tgt := 23) (by decide) ?_
      obtain rfl := so_1 hf
      refine go_sub [1, 2, 0] rfl ?_
      exact ih x2_20 h_19 _ (lp_c hy) hk
theorem e_X5_gatherRooms : yX5_gatherRooms.cls = RX5 ∧ yX5_gatherRooms.cls ≠ "java/lang/invoke/MethodHandle" ∧ yX5_gatherRooms.cls ≠ "java/lang/invoke/VarHandle" ∧ (parseMethodDescriptor yX5_gatherRooms.desc).map (fun d => d.parameters.length) = some 1 := by decide +kernel
set_option maxRecDepth 100000 in
set_option maxHeartbeats 4000000 in
theorem c_X5_gatherRooms (h : PH) (h2 : PH) (hf : f_X5_gatherRooms h = some ((), h2)) : Con yX5_gatherRooms wsX5_gatherRooms (rm_d 0) l0_B [.ref 27, .ref 17] h none h2 := by
  have hn5 : ∀ w ∈ wsX50, w ∈ wsX5_gatherRooms := (fun _ hw => (List.mem_cons_of_mem _ (List.mem_append_left _ (List.mem_append_right _ hw))))
  have hn6 : ∀ w ∈ wsX60, w ∈ wsX5_gatherRooms := (fun _ hw => (List.mem_cons_of_mem _ (List.mem_append_right _ hw)))
  refine con_v (cc := cX5_gatherRooms) (nL := 3) (by decide) rfl (Nat.le_of_ble_eq_true rfl) ?_
  intro C hC hret
  change Go l0_B C 0 0 0 [(0, .ref 27), (1, .ref 17)] [] h
  unfold f_X5_gatherRooms at hf
  refine go_iconst hC dX5_gatherRooms_0 k1_0 ?_
  refine go_istore_n hC dX5_gatherRooms_1 rfl (Nat.le_of_ble_eq_true rfl) rfl ?_
  obtain ⟨s_9, hl, hf⟩ := bd_e1 hf
  refine go_sub [1, 2, 0] rfl ?_
  refine lw_X5_gatherRooms_2 hC  _ 0 h s_9 hl ?_
  refine go_iconst hC dX5_gatherRooms_21 k1_0 ?_
  refine go_istore_n hC dX5_gatherRooms_22 rfl (Nat.le_of_ble_eq_true rfl) rfl ?_
  obtain ⟨s_22, hl, hf⟩ := bd_e1 hf
  refine go_sub [1, 2, 0] rfl ?_
  refine lw_X5_gatherRooms_23 hC  _ 0 s_9.2 s_22 hl ?_
  obtain ⟨-, rfl⟩ := so_2 hf
  exact hret _ _ dX5_gatherRooms_54
def lb_X5_leavesRoomDark_10 (x1 : Int32) (h : PH) (x2 : Int32) : Option ((Int32) ⊕ ((Int32) ⊕ (Int32))) :=
  if (h.1 27 7) ≤ x2 then (
  some (.inr (.inr x2)))
  else (
  ga_i x1 6 (
  bd_1 (f_J6_bitCount_0f7a4 (h.1 33 x1.toNatClampNeg) h) fun r_11 =>
  if r_11 < 2 then (
  lt_b (x2 + 1) fun x2_12 =>
  some (.inl x2_12))
  else (
  ga_i x1 6 (
  ga_i x2 3 (
  if ((h.1 33 x1.toNatClampNeg) &&& ((h.1 31 x2.toNatClampNeg) ^^^ (-1))) = 0 then (
  some (.inr (.inl 1)))
  else (
  lt_b (x2 + 1) fun x2_15 =>
  some (.inl x2_15)))))))
def lb_X5_leavesRoomDark_2 (h : PH) (x1 : Int32) : Option ((Int32) ⊕ ((Int32) ⊕ (Int32))) :=
  if 6 ≤ x1 then (
  some (.inr (.inr x1)))
  else (
  bd_1 (lp_f (fun s => lb_X5_leavesRoomDark_10 x1 h s) fu_l 0) fun s_24 => sw_b s_24 (fun r_27 => some (.inr (.inl r_27))) fun e_25 =>
  lt_b (x1 + 1) fun x1_26 =>
  some (.inl x1_26))
def f_X5_leavesRoomDark (h : PH) : Option (Int32) :=
  bd_1 (lp_f (fun s => lb_X5_leavesRoomDark_2 h s) fu_l 0) fun s_29 => sw_b s_29 (fun r_31 => some r_31) fun e_30 =>
  some 0
set_option maxRecDepth 100000 in
set_option maxHeartbeats 4000000 in
theorem lw_X5_leavesRoomDark_10 {C : GC} (hC : Cx C cX5_leavesRoomDark 3 wsX5_leavesRoomDark RX5 (some .boolean) (rm_d 1)) (x1 : Int32) (h : PH) : ∀ (n9 : Nat) (x2 : Int32) (y : (Int32) ⊕ (Int32)), lp_f (fun s => lb_X5_leavesRoomDark_10 x1 h s) n9 x2 = some y → ∀ (hk : match y with | .inl r => (∀ (pc : Nat) (L : List (Nat × Value)), narrow .boolean (.int r) = .int r → decode cX5_leavesRoomDark pc = .ok (.ireturn, 1) → Go l0_B C 0 0 pc L [.int r] h) | .inr e => Go l0_B C 0 0 57 [(0, .ref 27), (1, .int x1)] [] h), Go l0_B C 0 0 10 [(0, .ref 27), (1, .int x1), (2, .int x2)] [] h := by
  have hn5 : ∀ w ∈ wsX50, w ∈ wsX5_leavesRoomDark := (fun _ hw => (List.mem_cons_of_mem _ (List.mem_append_right _ hw)))
  intro n9
  induction n9 with
  | zero =>
    intro x2 y hlp
    cases hlp
  | succ n9 ih =>
    intro x2 y hlp hk
    obtain ⟨k9, z, hk9, hf, hy⟩ := lp_e hlp
    cases hk9
    replace hf : lb_X5_leavesRoomDark_10 x1 h x2 = some z := hf
    unfold lb_X5_leavesRoomDark_10 at hf
    refine go_iload_n hC dX5_leavesRoomDark_10 rfl 2 rfl ?_
    refine go_aload_n hC dX5_leavesRoomDark_11 rfl 0 rfl ?_
    refine go_geti hC (j := 7) (idx := 30) (nm := "most") (ds := "I") (b_27 _) rfl rfl hn5 (Nat.le_of_ble_eq_true rfl) rfl rfl (List.mem_cons_of_mem _ (List.mem_append_left _ (List.mem_of_getElem? (i := 0) rfl))) (Or.inl rfl) dX5_leavesRoomDark_12 ?_
    refine go_icmp_ge hC dX5_leavesRoomDark_15 (tgt := 57) (by decide) (fun c_18 => ?_) (fun c_18 => ?_)
    · replace hf := if_t c_18 hf
      obtain rfl := so_1 hf
      obtain rfl := lp_x hy
      refine go_sub [0, 1] rfl ?_
      exact hk
    · replace hf := if_f c_18 hf
      refine go_aload_n hC dX5_leavesRoomDark_18 rfl 0 rfl ?_
      refine go_getr hC (j := 5) (idx := 27) (nm := "rooms") (ds := "[I") (b_27 _) rfl rfl hn5 (Nat.le_of_ble_eq_true rfl) rfl rfl (List.mem_cons_of_mem _ (List.mem_append_left _ (List.mem_of_getElem? (i := 1) rfl))) (Or.inl rfl) dX5_leavesRoomDark_19 ?_
      refine go_iload_n hC dX5_leavesRoomDark_22 rfl 1 rfl ?_
      obtain ⟨g_10, hf⟩ := ga_e hf
      refine go_iald hC (b_33 _) g_10 dX5_leavesRoomDark_23 ?_
      obtain ⟨r_11, hc, hf⟩ := bd_e1 hf
      refine go_callS hC (c_J6_bitCount_0f7a4 (h.1 33 x1.toNatClampNeg) h r_11 hc) gX5_leavesRoomDark_J6_bitCount_0f7a4 rfl ⟨rfl, rfl⟩ 1 e_J6_bitCount_0f7a4 ⟨Nat.le_of_ble_eq_true rfl, Nat.le_of_ble_eq_true rfl⟩ rfl (st := []) (st1 := [.int r_11]) rfl rfl (Nat.le_of_ble_eq_true rfl) ⟨Nat.zero_le _, Nat.zero_le _⟩ dX5_leavesRoomDark_24 ?_
      refine go_iconst hC dX5_leavesRoomDark_27 k1_2 ?_
      refine go_icmp_lt hC dX5_leavesRoomDark_28 (tgt := 51) (by decide) (fun c_17 => ?_) (fun c_17 => ?_)
      · replace hf := if_t c_17 hf
        obtain ⟨x2_12, ex2_12, hf⟩ := lt_e hf
        refine go_iinc hC dX5_leavesRoomDark_51 2 rfl k1_1 ex2_12 (Nat.le_of_ble_eq_true rfl) rfl ?_
        refine go_goto hC dX5_leavesRoomDark_54 (tgt := 10) (by decide) ?_
        obtain rfl := so_1 hf
        refine go_sub [1, 2, 0] rfl ?_
        exact ih x2_12 _ (lp_c hy) hk
      · replace hf := if_f c_17 hf
        refine go_aload_n hC dX5_leavesRoomDark_31 rfl 0 rfl ?_
        refine go_getr hC (j := 5) (idx := 27) (nm := "rooms") (ds := "[I") (b_27 _) rfl rfl hn5 (Nat.le_of_ble_eq_true rfl) rfl rfl (List.mem_cons_of_mem _ (List.mem_append_left _ (List.mem_of_getElem? (i := 1) rfl))) (Or.inl rfl) dX5_leavesRoomDark_32 ?_
        refine go_iload_n hC dX5_leavesRoomDark_35 rfl 1 rfl ?_
        obtain ⟨g_13, hf⟩ := ga_e hf
        refine go_iald hC (b_33 _) g_13 dX5_leavesRoomDark_36 ?_
        refine go_aload_n hC dX5_leavesRoomDark_37 rfl 0 rfl ?_
        refine go_getr hC (j := 3) (idx := 21) (nm := "groups") (ds := "[I") (b_27 _) rfl rfl hn5 (Nat.le_of_ble_eq_true rfl) rfl rfl (List.mem_cons_of_mem _ (List.mem_append_left _ (List.mem_of_getElem? (i := 2) rfl))) (Or.inl rfl) dX5_leavesRoomDark_38 ?_
        refine go_iload_n hC dX5_leavesRoomDark_41 rfl 2 rfl ?_
        obtain ⟨g_14, hf⟩ := ga_e hf
        refine go_iald hC (b_31 _) g_14 dX5_leavesRoomDark_42 ?_
        refine go_iconst hC dX5_leavesRoomDark_43 k1_m1 ?_
        refine go_ixor hC dX5_leavesRoomDark_44 ?_
        refine go_iand hC dX5_leavesRoomDark_45 ?_
        refine go_if_ne hC dX5_leavesRoomDark_46 (tgt := 51) (by decide) (fun c_16 => ?_) (fun c_16 => ?_)
        · replace hf := if_f c_16 hf
          obtain ⟨x2_15, ex2_15, hf⟩ := lt_e hf
          refine go_iinc hC dX5_leavesRoomDark_51 2 rfl k1_1 ex2_15 (Nat.le_of_ble_eq_true rfl) rfl ?_
          refine go_goto hC dX5_leavesRoomDark_54 (tgt := 10) (by decide) ?_
          obtain rfl := so_1 hf
          refine go_sub [1, 2, 0] rfl ?_
          exact ih x2_15 _ (lp_c hy) hk
        · replace hf := if_t c_16 hf
          refine go_iconst hC dX5_leavesRoomDark_49 k1_1 ?_
          obtain rfl := so_1 hf
          obtain rfl := lp_x hy
          exact hk _ _ (zo_n (Or.inr rfl)) dX5_leavesRoomDark_50
set_option maxRecDepth 100000 in
set_option maxHeartbeats 4000000 in
theorem lw_X5_leavesRoomDark_2 {C : GC} (hC : Cx C cX5_leavesRoomDark 3 wsX5_leavesRoomDark RX5 (some .boolean) (rm_d 1)) (h : PH) : ∀ (n9 : Nat) (x1 : Int32) (y : (Int32) ⊕ (Int32)), lp_f (fun s => lb_X5_leavesRoomDark_2 h s) n9 x1 = some y → ∀ (hk : match y with | .inl r => (∀ (pc : Nat) (L : List (Nat × Value)), narrow .boolean (.int r) = .int r → decode cX5_leavesRoomDark pc = .ok (.ireturn, 1) → Go l0_B C 0 0 pc L [.int r] h) | .inr e => Go l0_B C 0 0 63 [] [] h), Go l0_B C 0 0 2 [(0, .ref 27), (1, .int x1)] [] h := by
  have hn5 : ∀ w ∈ wsX50, w ∈ wsX5_leavesRoomDark := (fun _ hw => (List.mem_cons_of_mem _ (List.mem_append_right _ hw)))
  intro n9
  induction n9 with
  | zero =>
    intro x1 y hlp
    cases hlp
  | succ n9 ih =>
    intro x1 y hlp hk
    obtain ⟨k9, z, hk9, hf, hy⟩ := lp_e hlp
    cases hk9
    replace hf : lb_X5_leavesRoomDark_2 h x1 = some z := hf
    unfold lb_X5_leavesRoomDark_2 at hf
    refine go_iload_n hC dX5_leavesRoomDark_2 rfl 1 rfl ?_
    refine go_bipush hC dX5_leavesRoomDark_3 k8_6 ?_
    refine go_icmp_ge hC dX5_leavesRoomDark_5 (tgt := 63) (by decide) (fun c_28 => ?_) (fun c_28 => ?_)
    · replace hf := if_t c_28 hf
      obtain rfl := so_1 hf
      obtain rfl := lp_x hy
      refine go_sub [] rfl ?_
      exact hk
    · replace hf := if_f c_28 hf
      refine go_iconst hC dX5_leavesRoomDark_8 k1_0 ?_
      refine go_istore_n hC dX5_leavesRoomDark_9 rfl (Nat.le_of_ble_eq_true rfl) rfl ?_
      obtain ⟨s_24, hl, hf⟩ := bd_e1 hf
      refine go_sub [1, 2, 0] rfl ?_
      refine lw_X5_leavesRoomDark_10 hC x1 h _ 0 s_24 hl ?_
      rcases s_24 with r_27 | e_25
      · replace hf : some (Sum.inr (Sum.inl r_27)) = some _ := hf
        cases hf
        cases lp_x hy
        exact hk
      · replace hf := sw_r hf
        obtain ⟨x1_26, ex1_26, hf⟩ := lt_e hf
        refine go_iinc hC dX5_leavesRoomDark_57 1 rfl k1_1 ex1_26 (Nat.le_of_ble_eq_true rfl) rfl ?_
        refine go_goto hC dX5_leavesRoomDark_60 (tgt := 2) (by decide) ?_
        obtain rfl := so_1 hf
        refine go_sub [1, 0] rfl ?_
        exact ih x1_26 _ (lp_c hy) hk
theorem e_X5_leavesRoomDark : yX5_leavesRoomDark.cls = RX5 ∧ yX5_leavesRoomDark.cls ≠ "java/lang/invoke/MethodHandle" ∧ yX5_leavesRoomDark.cls ≠ "java/lang/invoke/VarHandle" ∧ (parseMethodDescriptor yX5_leavesRoomDark.desc).map (fun d => d.parameters.length) = some 0 := by decide +kernel
set_option maxRecDepth 100000 in
set_option maxHeartbeats 4000000 in
theorem c_X5_leavesRoomDark (h : PH) (r : Int32) (hf : f_X5_leavesRoomDark h = some r) : Con yX5_leavesRoomDark wsX5_leavesRoomDark (rm_d 1) l0_B [.ref 27] h (some (.int r)) h := by
  have hn5 : ∀ w ∈ wsX50, w ∈ wsX5_leavesRoomDark := (fun _ hw => (List.mem_cons_of_mem _ (List.mem_append_right _ hw)))
  refine con_i (ty := .boolean) (cc := cX5_leavesRoomDark) (nL := 3) (by decide) rfl (Nat.le_of_ble_eq_true rfl) ?_
  intro C hC hret
  change Go l0_B C 0 0 0 [(0, .ref 27)] [] h
  unfold f_X5_leavesRoomDark at hf
  refine go_iconst hC dX5_leavesRoomDark_0 k1_0 ?_
  refine go_istore_n hC dX5_leavesRoomDark_1 rfl (Nat.le_of_ble_eq_true rfl) rfl ?_
  obtain ⟨s_29, hl, hf⟩ := bd_e1 hf
  refine go_sub [1, 0] rfl ?_
  refine lw_X5_leavesRoomDark_2 hC h _ 0 s_29 hl ?_
  rcases s_29 with r_31 | e_30
  · replace hf : some r_31 = some _ := hf
    cases hf
    exact hret
  · replace hf := sw_r hf
    refine go_iconst hC dX5_leavesRoomDark_63 k1_0 ?_
    obtain rfl := so_1 hf
    exact hret _ _ (zo_n (Or.inl rfl)) dX5_leavesRoomDark_64
def f_X5_keepIfLit (x1 : Int32) (h : PH) : Option (Unit × PH) :=
  if (h.1 27 9) = 0 then (
  lt_b (ph_i h 27 6 x1) fun h_1 =>
  gc_y 0 0 8 8 8 (
  lt_b (ph_r h_1 29 (va_cpy (h_1.1 30) (h_1.1 29) (0 : Int32).toNatClampNeg (0 : Int32).toNatClampNeg (8 : Int32).toNatClampNeg)) fun h_2 =>
  some ((), h_2)))
  else (
  bd_1 (f_X5_leavesRoomDark h) fun r_8 =>
  if r_8 = 0 then (
  lt_b (ph_i h 27 6 x1) fun h_9 =>
  gc_y 0 0 8 8 8 (
  lt_b (ph_r h_9 29 (va_cpy (h_9.1 30) (h_9.1 29) (0 : Int32).toNatClampNeg (0 : Int32).toNatClampNeg (8 : Int32).toNatClampNeg)) fun h_10 =>
  some ((), h_10)))
  else (
  some ((), h)))
theorem e_X5_keepIfLit : yX5_keepIfLit.cls = RX5 ∧ yX5_keepIfLit.cls ≠ "java/lang/invoke/MethodHandle" ∧ yX5_keepIfLit.cls ≠ "java/lang/invoke/VarHandle" ∧ (parseMethodDescriptor yX5_keepIfLit.desc).map (fun d => d.parameters.length) = some 1 := by decide +kernel
set_option maxRecDepth 100000 in
set_option maxHeartbeats 4000000 in
theorem c_X5_keepIfLit (x1 : Int32) (h : PH) (h2 : PH) (hf : f_X5_keepIfLit x1 h = some ((), h2)) : Con yX5_keepIfLit wsX5_keepIfLit (rm_d 2) l0_B [.ref 27, .int x1] h none h2 := by
  have hn5 : ∀ w ∈ wsX50, w ∈ wsX5_keepIfLit := (fun _ hw => (List.mem_cons_of_mem _ (List.mem_append_right _ hw)))
  refine con_v (cc := cX5_keepIfLit) (nL := 2) (by decide) rfl (Nat.le_of_ble_eq_true rfl) ?_
  intro C hC hret
  change Go l0_B C 0 0 0 [(0, .ref 27), (1, .int x1)] [] h
  unfold f_X5_keepIfLit at hf
  refine go_aload_n hC dX5_keepIfLit_0 rfl 0 rfl ?_
  refine go_geti hC (j := 9) (idx := 37) (nm := "looksAtDark") (ds := "Z") (b_27 _) rfl rfl hn5 (Nat.le_of_ble_eq_true rfl) rfl rfl (List.mem_cons_of_mem _ (List.mem_append_left _ (List.mem_of_getElem? (i := 0) rfl))) (Or.inl rfl) dX5_keepIfLit_1 ?_
  refine go_if_eq hC dX5_keepIfLit_4 (tgt := 15) (by decide) (fun c_17 => ?_) (fun c_17 => ?_)
  · replace hf := if_t c_17 hf
    refine go_aload_n hC dX5_keepIfLit_15 rfl 0 rfl ?_
    refine go_iload_n hC dX5_keepIfLit_16 rfl 1 rfl ?_
    obtain ⟨h_1, eh_1, hf⟩ := lt_e hf
    refine go_puti hC tyX5 (j := 6) (idx := 42) (nm := "leastSum") (ds := "I") (b_27 _) rfl rfl hn5 tyX5_ok nmX5 (Nat.le_of_ble_eq_true rfl) rfl rfl (List.mem_cons_of_mem _ (List.mem_append_left _ (List.mem_of_getElem? (i := 1) rfl))) (Or.inl rfl) rfl (tyX5_ok _ (Nat.le_of_ble_eq_true rfl)) dX5_keepIfLit_17 ?_
    refine go_toph eh_1 ?_
    refine go_aload_n hC dX5_keepIfLit_20 rfl 0 rfl ?_
    refine go_getr hC (j := 2) (idx := 18) (nm := "row") (ds := "[I") (b_27 _) rfl rfl hn5 (Nat.le_of_ble_eq_true rfl) rfl rfl (List.mem_cons_of_mem _ (List.mem_append_left _ (List.mem_of_getElem? (i := 2) rfl))) (Or.inl rfl) dX5_keepIfLit_21 ?_
    refine go_iconst hC dX5_keepIfLit_24 k1_0 ?_
    refine go_aload_n hC dX5_keepIfLit_25 rfl 0 rfl ?_
    refine go_getr hC (j := 1) (idx := 15) (nm := "firstRow") (ds := "[I") (b_27 _) rfl rfl hn5 (Nat.le_of_ble_eq_true rfl) rfl rfl (List.mem_cons_of_mem _ (List.mem_append_left _ (List.mem_of_getElem? (i := 3) rfl))) (Or.inl rfl) dX5_keepIfLit_26 ?_
    refine go_iconst hC dX5_keepIfLit_29 k1_0 ?_
    refine go_bipush hC dX5_keepIfLit_30 k8_8 ?_
    obtain ⟨⟨g_3, g_4, g_5, g_6, g_7⟩, hf⟩ := gc_e hf
    obtain ⟨h_2, eh_2, hf⟩ := lt_e hf
    refine go_copy hC (b_30 _) (b_29 _) (List.mem_cons_of_mem _ (List.mem_append_left _ (List.mem_of_getElem? (i := 4) rfl))) (List.mem_cons_of_mem _ (List.mem_append_left _ (List.mem_of_getElem? (i := 5) rfl))) (List.mem_cons_of_mem _ (List.mem_append_left _ (List.mem_of_getElem? (i := 6) rfl))) (List.mem_cons_of_mem _ (List.mem_append_left _ (List.mem_of_getElem? (i := 7) rfl))) g_3 g_4 g_5 g_6 g_7 ⟨Nat.le_of_ble_eq_true rfl, Nat.le_of_ble_eq_true rfl⟩ dX5_keepIfLit_32 ?_
    refine go_toph eh_2 ?_
    obtain ⟨-, rfl⟩ := so_2 hf
    exact hret _ _ dX5_keepIfLit_35
  · replace hf := if_f c_17 hf
    refine go_aload_n hC dX5_keepIfLit_7 rfl 0 rfl ?_
    obtain ⟨r_8, hc, hf⟩ := bd_e1 hf
    refine go_callV hC (c_X5_leavesRoomDark h r_8 hc) gX5_keepIfLit_X5_leavesRoomDark rfl ⟨rfl, rfl⟩ 0 e_X5_leavesRoomDark ⟨Nat.le_of_ble_eq_true rfl, Nat.le_of_ble_eq_true rfl⟩ (b_27 _) rfl rfl (st := []) (st1 := [.int r_8]) rfl rfl (Nat.le_of_ble_eq_true rfl) ⟨Nat.zero_le _, Nat.zero_le _⟩ dX5_keepIfLit_8 ?_
    refine go_if_eq hC dX5_keepIfLit_11 (tgt := 15) (by decide) (fun c_16 => ?_) (fun c_16 => ?_)
    · replace hf := if_t c_16 hf
      refine go_aload_n hC dX5_keepIfLit_15 rfl 0 rfl ?_
      refine go_iload_n hC dX5_keepIfLit_16 rfl 1 rfl ?_
      obtain ⟨h_9, eh_9, hf⟩ := lt_e hf
      refine go_puti hC tyX5 (j := 6) (idx := 42) (nm := "leastSum") (ds := "I") (b_27 _) rfl rfl hn5 tyX5_ok nmX5 (Nat.le_of_ble_eq_true rfl) rfl rfl (List.mem_cons_of_mem _ (List.mem_append_left _ (List.mem_of_getElem? (i := 1) rfl))) (Or.inl rfl) rfl (tyX5_ok _ (Nat.le_of_ble_eq_true rfl)) dX5_keepIfLit_17 ?_
      refine go_toph eh_9 ?_
      refine go_aload_n hC dX5_keepIfLit_20 rfl 0 rfl ?_
      refine go_getr hC (j := 2) (idx := 18) (nm := "row") (ds := "[I") (b_27 _) rfl rfl hn5 (Nat.le_of_ble_eq_true rfl) rfl rfl (List.mem_cons_of_mem _ (List.mem_append_left _ (List.mem_of_getElem? (i := 2) rfl))) (Or.inl rfl) dX5_keepIfLit_21 ?_
      refine go_iconst hC dX5_keepIfLit_24 k1_0 ?_
      refine go_aload_n hC dX5_keepIfLit_25 rfl 0 rfl ?_
      refine go_getr hC (j := 1) (idx := 15) (nm := "firstRow") (ds := "[I") (b_27 _) rfl rfl hn5 (Nat.le_of_ble_eq_true rfl) rfl rfl (List.mem_cons_of_mem _ (List.mem_append_left _ (List.mem_of_getElem? (i := 3) rfl))) (Or.inl rfl) dX5_keepIfLit_26 ?_
      refine go_iconst hC dX5_keepIfLit_29 k1_0 ?_
      refine go_bipush hC dX5_keepIfLit_30 k8_8 ?_
      obtain ⟨⟨g_11, g_12, g_13, g_14, g_15⟩, hf⟩ := gc_e hf
      obtain ⟨h_10, eh_10, hf⟩ := lt_e hf
      refine go_copy hC (b_30 _) (b_29 _) (List.mem_cons_of_mem _ (List.mem_append_left _ (List.mem_of_getElem? (i := 4) rfl))) (List.mem_cons_of_mem _ (List.mem_append_left _ (List.mem_of_getElem? (i := 5) rfl))) (List.mem_cons_of_mem _ (List.mem_append_left _ (List.mem_of_getElem? (i := 6) rfl))) (List.mem_cons_of_mem _ (List.mem_append_left _ (List.mem_of_getElem? (i := 7) rfl))) g_11 g_12 g_13 g_14 g_15 ⟨Nat.le_of_ble_eq_true rfl, Nat.le_of_ble_eq_true rfl⟩ dX5_keepIfLit_32 ?_
      refine go_toph eh_10 ?_
      obtain ⟨-, rfl⟩ := so_2 hf
      exact hret _ _ dX5_keepIfLit_35
    · replace hf := if_f c_16 hf
      obtain ⟨-, rfl⟩ := so_2 hf
      exact hret _ _ dX5_keepIfLit_14
def lb_X5_settle_34 (rec : Int32 → Int32 → Int32 → PH → Option (Unit × PH)) (x2 : Int32) (x3 : Int32) (x4 : Int32) (x5 : Int32) (h : PH) : Option ((Int32 × PH) ⊕ (Int32 × PH)) :=
  if (h.1 27 7) ≤ x5 then (
  some (.inr (x5, h)))
  else (
  if x3 < x5 then (
  some (.inr (x5, h)))
  else (
  ga_i x5 3 (
  ga_i x2 8 (
  if (h.1 27 8) < ((h.1 32 x5.toNatClampNeg) + (h.1 19 x2.toNatClampNeg)) then (
  lt_b (x5 + 1) fun x5_33 =>
  some (.inl (x5_33, h)))
  else (
  ga_i x5 3 (
  lt_b (h.1 31 x5.toNatClampNeg) fun x6_35 =>
  lt_b (x6_35 ||| ((1 : Int32) <<< (x2 &&& 31))) fun x7_36 =>
  ga_i x5 3 (
  lt_b (ph_i h 31 x5.toNatClampNeg x7_36) fun h_38 =>
  ga_i x5 3 (
  ga_i x2 8 (
  ga_i x5 3 (
  lt_b (ph_i h_38 32 x5.toNatClampNeg ((h_38.1 32 x5.toNatClampNeg) + (h_38.1 19 x2.toNatClampNeg))) fun h_42 =>
  ga_i x2 8 (
  lt_b (ph_i h_42 30 x2.toNatClampNeg x5) fun h_44 =>
  ga_i x6_35 256 (
  ga_i x7_36 256 (
  bd_2 (rec (x2 + 1) (if x3 < (x5 + 1) then (x5 + 1) else x3) ((x4 - (h_44.1 28 x6_35.toNatClampNeg)) + (h_44.1 28 x7_36.toNatClampNeg)) h_44) fun r_47 h_48 =>
  ga_i x5 3 (
  lt_b (ph_i h_48 31 x5.toNatClampNeg x6_35) fun h_50 =>
  ga_i x5 3 (
  ga_i x2 8 (
  ga_i x5 3 (
  lt_b (ph_i h_50 32 x5.toNatClampNeg ((h_50.1 32 x5.toNatClampNeg) - (h_50.1 19 x2.toNatClampNeg))) fun h_54 =>
  lt_b (x5 + 1) fun x5_55 =>
  some (.inl (x5_55, h_54)))))))))))))))))))
def f_X5_settle : Nat → Int32 → Int32 → Int32 → PH → Option (Unit × PH)
  | 0, _, _, _, _ => none
  | n0 + 1, x2, x3, x4, h =>
    if x4 < (h.1 27 6) then (
    if (h.1 17 0) ≤ x2 then (
    bd_2 (f_X5_keepIfLit x4 h) fun r_1 h_2 =>
    some ((), h_2))
    else (
    if x2 < 8 then (
    bd_1 (lp_f (fun s => lb_X5_settle_34 (f_X5_settle n0) x2 x3 x4 s.1 s.2) fu_l (0, h)) fun s_59 =>
    some ((), s_59.2))
    else (
    bd_2 (f_X5_keepIfLit x4 h) fun r_60 h_61 =>
    some ((), h_61))))
    else (
    some ((), h))
theorem e_X5_settle : yX5_settle.cls = RX5 ∧ yX5_settle.cls ≠ "java/lang/invoke/MethodHandle" ∧ yX5_settle.cls ≠ "java/lang/invoke/VarHandle" ∧ (parseMethodDescriptor yX5_settle.desc).map (fun d => d.parameters.length) = some 4 := by decide +kernel
set_option maxRecDepth 100000 in
set_option maxHeartbeats 4000000 in
theorem lw_X5_settle_34 {C : GC} {n0 : Nat} (rec : Int32 → Int32 → Int32 → PH → Option (Unit × PH)) (hrec : ∀ (y0 : Int32) (y1 : Int32) (y2 : Int32) (h h2 : PH), rec y0 y1 y2 h = some ((), h2) → Con yX5_settle wsX5_settle (rm_d (3 + n0)) l0_B [.ref 27, .ref 17, .int y0, .int y1, .int y2] h none h2) (hC : Cx C cX5_settle 8 wsX5_settle RX5 none (rm_d (3 + (n0 + 1)))) (x2 : Int32) (x3 : Int32) (x4 : Int32) : ∀ (n9 : Nat) (x5 : Int32) (h : PH) (y : Int32 × PH), lp_f (fun s => lb_X5_settle_34 rec x2 x3 x4 s.1 s.2) n9 (x5, h) = some y → ∀ (hk : Go l0_B C 0 0 185 [] [] y.2), Go l0_B C 0 0 34 [(0, .ref 27), (1, .ref 17), (2, .int x2), (3, .int x3), (4, .int x4), (5, .int x5)] [] h := by
  have hn5 : ∀ w ∈ wsX50, w ∈ wsX5_settle := (fun _ hw => (List.mem_cons_of_mem _ (List.mem_append_left _ (List.mem_append_right _ hw))))
  have hn6 : ∀ w ∈ wsX60, w ∈ wsX5_settle := (fun _ hw => (List.mem_cons_of_mem _ (List.mem_append_right _ hw)))
  intro n9
  induction n9 with
  | zero =>
    intro x5 h y hlp
    cases hlp
  | succ n9 ih =>
    intro x5 h y hlp hk
    obtain ⟨k9, z, hk9, hf, hy⟩ := lp_e hlp
    cases hk9
    replace hf : lb_X5_settle_34 rec x2 x3 x4 x5 h = some z := hf
    unfold lb_X5_settle_34 at hf
    refine go_iload hC dX5_settle_34 5 rfl ?_
    refine go_aload_n hC dX5_settle_36 rfl 0 rfl ?_
    refine go_geti hC (j := 7) (idx := 30) (nm := "most") (ds := "I") (b_27 _) rfl rfl hn5 (Nat.le_of_ble_eq_true rfl) rfl rfl (List.mem_cons_of_mem _ (List.mem_append_left _ (List.mem_append_left _ (List.mem_append_left _ (List.mem_of_getElem? (i := 2) rfl))))) (Or.inl rfl) dX5_settle_37 ?_
    refine go_icmp_ge hC dX5_settle_40 (tgt := 185) (by decide) (fun c_58 => ?_) (fun c_58 => ?_)
    · replace hf := if_t c_58 hf
      obtain rfl := so_1 hf
      obtain rfl := lp_x hy
      refine go_sub [] rfl ?_
      exact hk
    · replace hf := if_f c_58 hf
      refine go_iload hC dX5_settle_43 5 rfl ?_
      refine go_iload_n hC dX5_settle_45 rfl 3 rfl ?_
      refine go_icmp_gt hC dX5_settle_46 (tgt := 185) (by decide) (fun c_57 => ?_) (fun c_57 => ?_)
      · replace hf := if_t c_57 hf
        obtain rfl := so_1 hf
        obtain rfl := lp_x hy
        refine go_sub [] rfl ?_
        exact hk
      · replace hf := if_f c_57 hf
        refine go_aload_n hC dX5_settle_49 rfl 0 rfl ?_
        refine go_getr hC (j := 4) (idx := 24) (nm := "borne") (ds := "[I") (b_27 _) rfl rfl hn5 (Nat.le_of_ble_eq_true rfl) rfl rfl (List.mem_cons_of_mem _ (List.mem_append_left _ (List.mem_append_left _ (List.mem_append_left _ (List.mem_of_getElem? (i := 3) rfl))))) (Or.inl rfl) dX5_settle_50 ?_
        refine go_iload hC dX5_settle_53 5 rfl ?_
        obtain ⟨g_31, hf⟩ := ga_e hf
        refine go_iald hC (b_32 _) g_31 dX5_settle_55 ?_
        refine go_aload_n hC dX5_settle_56 rfl 1 rfl ?_
        refine go_getr hC (j := 2) (idx := 63) (nm := "loads") (ds := "[I") (b_17 _) rfl rfl hn6 (Nat.le_of_ble_eq_true rfl) rfl rfl (List.mem_cons_of_mem _ (List.mem_append_left _ (List.mem_append_left _ (List.mem_append_left _ (List.mem_of_getElem? (i := 4) rfl))))) (Or.inl rfl) dX5_settle_57 ?_
        refine go_iload_n hC dX5_settle_60 rfl 2 rfl ?_
        obtain ⟨g_32, hf⟩ := ga_e hf
        refine go_iald hC (b_19 _) g_32 dX5_settle_61 ?_
        refine go_iadd hC dX5_settle_62 ?_
        refine go_aload_n hC dX5_settle_63 rfl 0 rfl ?_
        refine go_geti hC (j := 8) (idx := 34) (nm := "fuse") (ds := "I") (b_27 _) rfl rfl hn5 (Nat.le_of_ble_eq_true rfl) rfl rfl (List.mem_cons_of_mem _ (List.mem_append_left _ (List.mem_append_left _ (List.mem_append_left _ (List.mem_of_getElem? (i := 5) rfl))))) (Or.inl rfl) dX5_settle_64 ?_
        refine go_icmp_gt hC dX5_settle_67 (tgt := 179) (by decide) (fun c_56 => ?_) (fun c_56 => ?_)
        · replace hf := if_t c_56 hf
          obtain ⟨x5_33, ex5_33, hf⟩ := lt_e hf
          refine go_iinc hC dX5_settle_179 5 rfl k1_1 ex5_33 (Nat.le_of_ble_eq_true rfl) rfl ?_
          refine go_goto hC dX5_settle_182 (tgt := 34) (by decide) ?_
          obtain rfl := so_1 hf
          refine go_sub [1, 2, 3, 4, 5, 0] rfl ?_
          exact ih x5_33 h _ (lp_c hy) hk
        · replace hf := if_f c_56 hf
          refine go_aload_n hC dX5_settle_70 rfl 0 rfl ?_
          refine go_getr hC (j := 3) (idx := 21) (nm := "groups") (ds := "[I") (b_27 _) rfl rfl hn5 (Nat.le_of_ble_eq_true rfl) rfl rfl (List.mem_cons_of_mem _ (List.mem_append_left _ (List.mem_append_left _ (List.mem_append_left _ (List.mem_of_getElem? (i := 6) rfl))))) (Or.inl rfl) dX5_settle_71 ?_
          refine go_iload hC dX5_settle_74 5 rfl ?_
          obtain ⟨g_34, hf⟩ := ga_e hf
          refine go_iald hC (b_31 _) g_34 dX5_settle_76 ?_
          obtain ⟨x6_35, ex6_35, hf⟩ := lt_e hf
          refine go_topi ex6_35 ?_
          refine go_istore hC dX5_settle_77 (Nat.le_of_ble_eq_true rfl) rfl ?_
          refine go_iload hC dX5_settle_79 0 rfl ?_
          refine go_iconst hC dX5_settle_81 k1_1 ?_
          refine go_iload_n hC dX5_settle_82 rfl 3 rfl ?_
          refine go_ishl hC dX5_settle_83 ?_
          refine go_ior hC dX5_settle_84 ?_
          obtain ⟨x7_36, ex7_36, hf⟩ := lt_e hf
          refine go_topi ex7_36 ?_
          refine go_istore hC dX5_settle_85 (Nat.le_of_ble_eq_true rfl) rfl ?_
          refine go_aload_n hC dX5_settle_87 rfl 2 rfl ?_
          refine go_getr hC (j := 3) (idx := 21) (nm := "groups") (ds := "[I") (b_27 _) rfl rfl hn5 (Nat.le_of_ble_eq_true rfl) rfl rfl (List.mem_cons_of_mem _ (List.mem_append_left _ (List.mem_append_left _ (List.mem_append_left _ (List.mem_of_getElem? (i := 6) rfl))))) (Or.inl rfl) dX5_settle_88 ?_
          refine go_iload hC dX5_settle_91 7 rfl ?_
          refine go_iload hC dX5_settle_93 0 rfl ?_
          obtain ⟨g_37, hf⟩ := ga_e hf
          obtain ⟨h_38, eh_38, hf⟩ := lt_e hf
          refine go_iast hC (b_31 _) g_37 dX5_settle_95 ?_
          refine go_toph eh_38 ?_
          refine go_aload_n hC dX5_settle_96 rfl 2 rfl ?_
          refine go_getr hC (j := 4) (idx := 24) (nm := "borne") (ds := "[I") (b_27 _) rfl rfl hn5 (Nat.le_of_ble_eq_true rfl) rfl rfl (List.mem_cons_of_mem _ (List.mem_append_left _ (List.mem_append_left _ (List.mem_append_left _ (List.mem_of_getElem? (i := 3) rfl))))) (Or.inl rfl) dX5_settle_97 ?_
          refine go_iload hC dX5_settle_100 7 rfl ?_
          refine go_dup2 hC dX5_settle_102 rfl rfl ?_
          obtain ⟨g_39, hf⟩ := ga_e hf
          refine go_iald hC (b_32 _) g_39 dX5_settle_103 ?_
          refine go_aload_n hC dX5_settle_104 rfl 3 rfl ?_
          refine go_getr hC (j := 2) (idx := 63) (nm := "loads") (ds := "[I") (b_17 _) rfl rfl hn6 (Nat.le_of_ble_eq_true rfl) rfl rfl (List.mem_cons_of_mem _ (List.mem_append_left _ (List.mem_append_left _ (List.mem_append_left _ (List.mem_of_getElem? (i := 4) rfl))))) (Or.inl rfl) dX5_settle_105 ?_
          refine go_iload_n hC dX5_settle_108 rfl 4 rfl ?_
          obtain ⟨g_40, hf⟩ := ga_e hf
          refine go_iald hC (b_19 _) g_40 dX5_settle_109 ?_
          refine go_iadd hC dX5_settle_110 ?_
          obtain ⟨g_41, hf⟩ := ga_e hf
          obtain ⟨h_42, eh_42, hf⟩ := lt_e hf
          refine go_iast hC (b_32 _) g_41 dX5_settle_111 ?_
          refine go_toph eh_42 ?_
          refine go_aload_n hC dX5_settle_112 rfl 2 rfl ?_
          refine go_getr hC (j := 2) (idx := 18) (nm := "row") (ds := "[I") (b_27 _) rfl rfl hn5 (Nat.le_of_ble_eq_true rfl) rfl rfl (List.mem_cons_of_mem _ (List.mem_append_left _ (List.mem_append_left _ (List.mem_append_left _ (List.mem_of_getElem? (i := 7) rfl))))) (Or.inl rfl) dX5_settle_113 ?_
          refine go_iload_n hC dX5_settle_116 rfl 4 rfl ?_
          refine go_iload hC dX5_settle_117 7 rfl ?_
          obtain ⟨g_43, hf⟩ := ga_e hf
          obtain ⟨h_44, eh_44, hf⟩ := lt_e hf
          refine go_iast hC (b_30 _) g_43 dX5_settle_119 ?_
          refine go_toph eh_44 ?_
          refine go_aload_n hC dX5_settle_120 rfl 2 rfl ?_
          refine go_aload_n hC dX5_settle_121 rfl 3 rfl ?_
          refine go_iload_n hC dX5_settle_122 rfl 4 rfl ?_
          refine go_iconst hC dX5_settle_123 k1_1 ?_
          refine go_iadd hC dX5_settle_124 ?_
          refine go_iload_n hC dX5_settle_125 rfl 5 rfl ?_
          refine go_iload hC dX5_settle_126 7 rfl ?_
          refine go_iconst hC dX5_settle_128 k1_1 ?_
          refine go_iadd hC dX5_settle_129 ?_
          refine go_max hC (List.mem_cons_of_mem _ (List.mem_append_left _ (List.mem_append_left _ (List.mem_append_left _ (List.mem_of_getElem? (i := 8) rfl))))) (List.mem_cons_of_mem _ (List.mem_append_left _ (List.mem_append_left _ (List.mem_append_left _ (List.mem_of_getElem? (i := 9) rfl))))) (List.mem_cons_of_mem _ (List.mem_append_left _ (List.mem_append_left _ (List.mem_append_left _ (List.mem_of_getElem? (i := 10) rfl))))) (List.mem_cons_of_mem _ (List.mem_append_left _ (List.mem_append_left _ (List.mem_append_left _ (List.mem_of_getElem? (i := 11) rfl))))) ⟨by simp only [rm_d]; omega, Nat.le_trans (m := 41) (Nat.le_of_ble_eq_true rfl) (by simp only [rm_d]; omega)⟩ ⟨Nat.zero_le _, Nat.zero_le _⟩ dX5_settle_130 ?_
          refine go_iload hC dX5_settle_133 6 rfl ?_
          refine go_aload_n hC dX5_settle_135 rfl 2 rfl ?_
          refine go_getr hC (j := 0) (idx := 9) (nm := "yardsOfSets") (ds := "[I") (b_27 _) rfl rfl hn5 (Nat.le_of_ble_eq_true rfl) rfl rfl (List.mem_cons_of_mem _ (List.mem_append_left _ (List.mem_append_left _ (List.mem_append_left _ (List.mem_of_getElem? (i := 12) rfl))))) (Or.inl rfl) dX5_settle_136 ?_
          refine go_iload hC dX5_settle_139 1 rfl ?_
          obtain ⟨g_45, hf⟩ := ga_e hf
          refine go_iald hC (b_28 _) g_45 dX5_settle_141 ?_
          refine go_isub hC dX5_settle_142 ?_
          refine go_aload_n hC dX5_settle_143 rfl 2 rfl ?_
          refine go_getr hC (j := 0) (idx := 9) (nm := "yardsOfSets") (ds := "[I") (b_27 _) rfl rfl hn5 (Nat.le_of_ble_eq_true rfl) rfl rfl (List.mem_cons_of_mem _ (List.mem_append_left _ (List.mem_append_left _ (List.mem_append_left _ (List.mem_of_getElem? (i := 12) rfl))))) (Or.inl rfl) dX5_settle_144 ?_
          refine go_iload hC dX5_settle_147 0 rfl ?_
          obtain ⟨g_46, hf⟩ := ga_e hf
          refine go_iald hC (b_28 _) g_46 dX5_settle_149 ?_
          refine go_iadd hC dX5_settle_150 ?_
          obtain ⟨r_47, h_48, hc, hf⟩ := bd_e2 hf
          refine go_callV hC (hrec (x2 + 1) (if x3 < (x5 + 1) then (x5 + 1) else x3) ((x4 - (h_44.1 28 x6_35.toNatClampNeg)) + (h_44.1 28 x7_36.toNatClampNeg)) h_44 h_48 hc) gX5_settle_X5_settle rfl ⟨rfl, rfl⟩ 4 e_X5_settle ⟨by simp only [rm_d]; omega, by simp only [rm_d]; omega⟩ (b_27 _) rfl rfl (st := []) (st1 := []) rfl rfl (Nat.le_of_ble_eq_true rfl) ⟨Nat.zero_le _, Nat.zero_le _⟩ dX5_settle_151 ?_
          refine go_aload_n hC dX5_settle_154 rfl 2 rfl ?_
          refine go_getr hC (j := 3) (idx := 21) (nm := "groups") (ds := "[I") (b_27 _) rfl rfl hn5 (Nat.le_of_ble_eq_true rfl) rfl rfl (List.mem_cons_of_mem _ (List.mem_append_left _ (List.mem_append_left _ (List.mem_append_left _ (List.mem_of_getElem? (i := 6) rfl))))) (Or.inl rfl) dX5_settle_155 ?_
          refine go_iload hC dX5_settle_158 7 rfl ?_
          refine go_iload hC dX5_settle_160 1 rfl ?_
          obtain ⟨g_49, hf⟩ := ga_e hf
          obtain ⟨h_50, eh_50, hf⟩ := lt_e hf
          refine go_iast hC (b_31 _) g_49 dX5_settle_162 ?_
          refine go_toph eh_50 ?_
          refine go_aload_n hC dX5_settle_163 rfl 2 rfl ?_
          refine go_getr hC (j := 4) (idx := 24) (nm := "borne") (ds := "[I") (b_27 _) rfl rfl hn5 (Nat.le_of_ble_eq_true rfl) rfl rfl (List.mem_cons_of_mem _ (List.mem_append_left _ (List.mem_append_left _ (List.mem_append_left _ (List.mem_of_getElem? (i := 3) rfl))))) (Or.inl rfl) dX5_settle_164 ?_
          refine go_iload hC dX5_settle_167 7 rfl ?_
          refine go_dup2 hC dX5_settle_169 rfl rfl ?_
          obtain ⟨g_51, hf⟩ := ga_e hf
          refine go_iald hC (b_32 _) g_51 dX5_settle_170 ?_
          refine go_aload_n hC dX5_settle_171 rfl 3 rfl ?_
          refine go_getr hC (j := 2) (idx := 63) (nm := "loads") (ds := "[I") (b_17 _) rfl rfl hn6 (Nat.le_of_ble_eq_true rfl) rfl rfl (List.mem_cons_of_mem _ (List.mem_append_left _ (List.mem_append_left _ (List.mem_append_left _ (List.mem_of_getElem? (i := 4) rfl))))) (Or.inl rfl) dX5_settle_172 ?_
          refine go_iload_n hC dX5_settle_175 rfl 4 rfl ?_
          obtain ⟨g_52, hf⟩ := ga_e hf
          refine go_iald hC (b_19 _) g_52 dX5_settle_176 ?_
          refine go_isub hC dX5_settle_177 ?_
          obtain ⟨g_53, hf⟩ := ga_e hf
          obtain ⟨h_54, eh_54, hf⟩ := lt_e hf
          refine go_iast hC (b_32 _) g_53 dX5_settle_178 ?_
          refine go_toph eh_54 ?_
          obtain ⟨x5_55, ex5_55, hf⟩ := lt_e hf
          refine go_iinc hC dX5_settle_179 7 rfl k1_1 ex5_55 (Nat.le_of_ble_eq_true rfl) rfl ?_
          refine go_goto hC dX5_settle_182 (tgt := 34) (by decide) ?_
          obtain rfl := so_1 hf
          refine go_sub [3, 4, 5, 6, 7, 0] rfl ?_
          exact ih x5_55 h_54 _ (lp_c hy) hk
set_option maxRecDepth 100000 in
set_option maxHeartbeats 4000000 in
theorem c_X5_settle : ∀ (n0 : Nat) (x2 : Int32) (x3 : Int32) (x4 : Int32) (h h2 : PH), f_X5_settle n0 x2 x3 x4 h = some ((), h2) → Con yX5_settle wsX5_settle (rm_d (3 + n0)) l0_B [.ref 27, .ref 17, .int x2, .int x3, .int x4] h none h2 := by
  intro n0
  induction n0 with
  | zero =>
    intro x2 x3 x4 h h2 hf
    simp [f_X5_settle] at hf
  | succ n0 ih =>
    intro x2 x3 x4 h h2 hf
    have hn5 : ∀ w ∈ wsX50, w ∈ wsX5_settle := (fun _ hw => (List.mem_cons_of_mem _ (List.mem_append_left _ (List.mem_append_right _ hw))))
    have hn6 : ∀ w ∈ wsX60, w ∈ wsX5_settle := (fun _ hw => (List.mem_cons_of_mem _ (List.mem_append_right _ hw)))
    refine con_v (cc := cX5_settle) (nL := 8) (by decide) rfl (Nat.le_of_ble_eq_true rfl) ?_
    intro C hC hret
    change Go l0_B C 0 0 0 [(0, .ref 27), (1, .ref 17), (2, .int x2), (3, .int x3), (4, .int x4)] [] h
    rw [f_X5_settle] at hf
    refine go_iload hC dX5_settle_0 4 rfl ?_
    refine go_aload_n hC dX5_settle_2 rfl 0 rfl ?_
    refine go_geti hC (j := 6) (idx := 42) (nm := "leastSum") (ds := "I") (b_27 _) rfl rfl hn5 (Nat.le_of_ble_eq_true rfl) rfl rfl (List.mem_cons_of_mem _ (List.mem_append_left _ (List.mem_append_left _ (List.mem_append_left _ (List.mem_of_getElem? (i := 0) rfl))))) (Or.inl rfl) dX5_settle_3 ?_
    refine go_icmp_lt hC dX5_settle_6 (tgt := 10) (by decide) (fun c_64 => ?_) (fun c_64 => ?_)
    · replace hf := if_t c_64 hf
      refine go_iload_n hC dX5_settle_10 rfl 2 rfl ?_
      refine go_aload_n hC dX5_settle_11 rfl 1 rfl ?_
      refine go_geti hC (j := 0) (idx := 53) (nm := "count") (ds := "I") (b_17 _) rfl rfl hn6 (Nat.le_of_ble_eq_true rfl) rfl rfl (List.mem_cons_of_mem _ (List.mem_append_left _ (List.mem_append_left _ (List.mem_append_left _ (List.mem_of_getElem? (i := 1) rfl))))) (Or.inl rfl) dX5_settle_12 ?_
      refine go_icmp_ge hC dX5_settle_15 (tgt := 24) (by decide) (fun c_63 => ?_) (fun c_63 => ?_)
      · replace hf := if_t c_63 hf
        refine go_aload_n hC dX5_settle_24 rfl 0 rfl ?_
        refine go_iload hC dX5_settle_25 4 rfl ?_
        obtain ⟨r_1, h_2, hc, hf⟩ := bd_e2 hf
        refine go_callV hC (c_X5_keepIfLit x4 h h_2 hc) gX5_settle_X5_keepIfLit rfl ⟨rfl, rfl⟩ 1 e_X5_keepIfLit ⟨by simp only [rm_d]; omega, by simp only [rm_d]; omega⟩ (b_27 _) rfl rfl (st := []) (st1 := []) rfl rfl (Nat.le_of_ble_eq_true rfl) ⟨Nat.zero_le _, Nat.zero_le _⟩ dX5_settle_27 ?_
        obtain ⟨-, rfl⟩ := so_2 hf
        exact hret _ _ dX5_settle_30
      · replace hf := if_f c_63 hf
        refine go_iload_n hC dX5_settle_18 rfl 2 rfl ?_
        refine go_bipush hC dX5_settle_19 k8_8 ?_
        refine go_icmp_lt hC dX5_settle_21 (tgt := 31) (by decide) (fun c_62 => ?_) (fun c_62 => ?_)
        · replace hf := if_t c_62 hf
          refine go_iconst hC dX5_settle_31 k1_0 ?_
          refine go_istore hC dX5_settle_32 (Nat.le_of_ble_eq_true rfl) rfl ?_
          obtain ⟨s_59, hl, hf⟩ := bd_e1 hf
          refine go_sub [1, 2, 3, 4, 5, 0] rfl ?_
          refine lw_X5_settle_34 (f_X5_settle n0) ih hC x2 x3 x4 _ 0 h s_59 hl ?_
          obtain ⟨-, rfl⟩ := so_2 hf
          exact hret _ _ dX5_settle_185
        · replace hf := if_f c_62 hf
          refine go_aload_n hC dX5_settle_24 rfl 0 rfl ?_
          refine go_iload hC dX5_settle_25 4 rfl ?_
          obtain ⟨r_60, h_61, hc, hf⟩ := bd_e2 hf
          refine go_callV hC (c_X5_keepIfLit x4 h h_61 hc) gX5_settle_X5_keepIfLit rfl ⟨rfl, rfl⟩ 1 e_X5_keepIfLit ⟨by simp only [rm_d]; omega, by simp only [rm_d]; omega⟩ (b_27 _) rfl rfl (st := []) (st1 := []) rfl rfl (Nat.le_of_ble_eq_true rfl) ⟨Nat.zero_le _, Nat.zero_le _⟩ dX5_settle_27 ?_
          obtain ⟨-, rfl⟩ := so_2 hf
          exact hret _ _ dX5_settle_30
    · replace hf := if_f c_64 hf
      obtain ⟨-, rfl⟩ := so_2 hf
      exact hret _ _ dX5_settle_9
def lb_X5_leastYards_25  (x5 : Int32) (h : PH) : Option ((Int32 × PH) ⊕ (Int32 × PH)) :=
  if 3 ≤ x5 then (
  some (.inr (x5, h)))
  else (
  ga_i x5 3 (
  lt_b (ph_i h 31 x5.toNatClampNeg 0) fun h_13 =>
  ga_i x5 3 (
  lt_b (ph_i h_13 32 x5.toNatClampNeg 0) fun h_15 =>
  lt_b (x5 + 1) fun x5_16 =>
  some (.inl (x5_16, h_15)))))
def f_X5_leastYards (x2 : Int32) (x3 : Int32) (x4 : Int32) (h : PH) : Option (Int32 × PH) :=
  lt_b (ph_i h 27 7 x2) fun h_1 =>
  lt_b (ph_i h_1 27 8 x3) fun h_2 =>
  gb_i x4 (
  lt_b (ph_i h_2 27 9 x4) fun h_3 =>
  lt_b (ph_i h_3 27 6 1000000) fun h_5 =>
  bd_1 (lp_f (fun s => lb_X5_leastYards_25  s.1 s.2) fu_l (0, h_5)) fun s_18 =>
  bd_2 (f_X5_gatherRooms s_18.2) fun r_19 h_20 =>
  bd_2 (f_X5_settle 12 0 0 0 h_20) fun r_21 h_22 =>
  some (h_22.1 27 6, h_22))
set_option maxRecDepth 100000 in
set_option maxHeartbeats 4000000 in
theorem lw_X5_leastYards_25 {C : GC} (hC : Cx C cX5_leastYards 6 wsX5_leastYards RX5 (some .int) (rm_d 16))  : ∀ (n9 : Nat) (x5 : Int32) (h : PH) (y : Int32 × PH), lp_f (fun s => lb_X5_leastYards_25  s.1 s.2) n9 (x5, h) = some y → ∀ (hk : Go l0_B C 0 0 53 [(0, .ref 27), (1, .ref 17)] [] y.2), Go l0_B C 0 0 25 [(0, .ref 27), (1, .ref 17), (5, .int x5)] [] h := by
  have hn5 : ∀ w ∈ wsX50, w ∈ wsX5_leastYards := (fun _ hw => (List.mem_cons_of_mem _ (List.mem_append_left _ (List.mem_append_right _ hw))))
  intro n9
  induction n9 with
  | zero =>
    intro x5 h y hlp
    cases hlp
  | succ n9 ih =>
    intro x5 h y hlp hk
    obtain ⟨k9, z, hk9, hf, hy⟩ := lp_e hlp
    cases hk9
    replace hf : lb_X5_leastYards_25  x5 h = some z := hf
    unfold lb_X5_leastYards_25 at hf
    refine go_iload hC dX5_leastYards_25 2 rfl ?_
    refine go_iconst hC dX5_leastYards_27 k1_3 ?_
    refine go_icmp_ge hC dX5_leastYards_28 (tgt := 53) (by decide) (fun c_17 => ?_) (fun c_17 => ?_)
    · replace hf := if_t c_17 hf
      obtain rfl := so_1 hf
      obtain rfl := lp_x hy
      refine go_sub [0, 1] rfl ?_
      exact hk
    · replace hf := if_f c_17 hf
      refine go_aload_n hC dX5_leastYards_31 rfl 0 rfl ?_
      refine go_getr hC (j := 3) (idx := 21) (nm := "groups") (ds := "[I") (b_27 _) rfl rfl hn5 (Nat.le_of_ble_eq_true rfl) rfl rfl (List.mem_cons_of_mem _ (List.mem_append_left _ (List.mem_append_left _ (List.mem_append_left _ (List.mem_of_getElem? (i := 5) rfl))))) (Or.inl rfl) dX5_leastYards_32 ?_
      refine go_iload hC dX5_leastYards_35 2 rfl ?_
      refine go_iconst hC dX5_leastYards_37 k1_0 ?_
      obtain ⟨g_12, hf⟩ := ga_e hf
      obtain ⟨h_13, eh_13, hf⟩ := lt_e hf
      refine go_iast hC (b_31 _) g_12 dX5_leastYards_38 ?_
      refine go_toph eh_13 ?_
      refine go_aload_n hC dX5_leastYards_39 rfl 0 rfl ?_
      refine go_getr hC (j := 4) (idx := 24) (nm := "borne") (ds := "[I") (b_27 _) rfl rfl hn5 (Nat.le_of_ble_eq_true rfl) rfl rfl (List.mem_cons_of_mem _ (List.mem_append_left _ (List.mem_append_left _ (List.mem_append_left _ (List.mem_of_getElem? (i := 6) rfl))))) (Or.inl rfl) dX5_leastYards_40 ?_
      refine go_iload hC dX5_leastYards_43 2 rfl ?_
      refine go_iconst hC dX5_leastYards_45 k1_0 ?_
      obtain ⟨g_14, hf⟩ := ga_e hf
      obtain ⟨h_15, eh_15, hf⟩ := lt_e hf
      refine go_iast hC (b_32 _) g_14 dX5_leastYards_46 ?_
      refine go_toph eh_15 ?_
      obtain ⟨x5_16, ex5_16, hf⟩ := lt_e hf
      refine go_iinc hC dX5_leastYards_47 2 rfl k1_1 ex5_16 (Nat.le_of_ble_eq_true rfl) rfl ?_
      refine go_goto hC dX5_leastYards_50 (tgt := 25) (by decide) ?_
      obtain rfl := so_1 hf
      refine go_sub [1, 2, 0] rfl ?_
      exact ih x5_16 h_15 _ (lp_c hy) hk
theorem e_X5_leastYards : yX5_leastYards.cls = RX5 ∧ yX5_leastYards.cls ≠ "java/lang/invoke/MethodHandle" ∧ yX5_leastYards.cls ≠ "java/lang/invoke/VarHandle" ∧ (parseMethodDescriptor yX5_leastYards.desc).map (fun d => d.parameters.length) = some 4 := by decide +kernel
set_option maxRecDepth 100000 in
set_option maxHeartbeats 4000000 in
theorem c_X5_leastYards (x2 : Int32) (x3 : Int32) (x4 : Int32) (h : PH) (h2 : PH) (r : Int32) (hf : f_X5_leastYards x2 x3 x4 h = some (r, h2)) : Con yX5_leastYards wsX5_leastYards (rm_d 16) l0_B [.ref 27, .ref 17, .int x2, .int x3, .int x4] h (some (.int r)) h2 := by
  have hn5 : ∀ w ∈ wsX50, w ∈ wsX5_leastYards := (fun _ hw => (List.mem_cons_of_mem _ (List.mem_append_left _ (List.mem_append_right _ hw))))
  refine con_i (ty := .int) (cc := cX5_leastYards) (nL := 6) (by decide) rfl (Nat.le_of_ble_eq_true rfl) ?_
  intro C hC hret
  change Go l0_B C 0 0 0 [(0, .ref 27), (1, .ref 17), (2, .int x2), (3, .int x3), (4, .int x4)] [] h
  unfold f_X5_leastYards at hf
  refine go_aload_n hC dX5_leastYards_0 rfl 0 rfl ?_
  refine go_iload_n hC dX5_leastYards_1 rfl 2 rfl ?_
  obtain ⟨h_1, eh_1, hf⟩ := lt_e hf
  refine go_puti hC tyX5 (j := 7) (idx := 30) (nm := "most") (ds := "I") (b_27 _) rfl rfl hn5 tyX5_ok nmX5 (Nat.le_of_ble_eq_true rfl) rfl rfl (List.mem_cons_of_mem _ (List.mem_append_left _ (List.mem_append_left _ (List.mem_append_left _ (List.mem_of_getElem? (i := 0) rfl))))) (Or.inl rfl) rfl (tyX5_ok _ (Nat.le_of_ble_eq_true rfl)) dX5_leastYards_2 ?_
  refine go_toph eh_1 ?_
  refine go_aload_n hC dX5_leastYards_5 rfl 0 rfl ?_
  refine go_iload_n hC dX5_leastYards_6 rfl 3 rfl ?_
  obtain ⟨h_2, eh_2, hf⟩ := lt_e hf
  refine go_puti hC tyX5 (j := 8) (idx := 34) (nm := "fuse") (ds := "I") (b_27 _) rfl rfl hn5 tyX5_ok nmX5 (Nat.le_of_ble_eq_true rfl) rfl rfl (List.mem_cons_of_mem _ (List.mem_append_left _ (List.mem_append_left _ (List.mem_append_left _ (List.mem_of_getElem? (i := 1) rfl))))) (Or.inl rfl) rfl (tyX5_ok _ (Nat.le_of_ble_eq_true rfl)) dX5_leastYards_7 ?_
  refine go_toph eh_2 ?_
  refine go_aload_n hC dX5_leastYards_10 rfl 0 rfl ?_
  refine go_iload hC dX5_leastYards_11 4 rfl ?_
  obtain ⟨g_4, hf⟩ := gb_e hf
  obtain ⟨h_3, eh_3, hf⟩ := lt_e hf
  refine go_putz hC tyX5 (j := 9) (idx := 37) (nm := "looksAtDark") (ds := "Z") (b_27 _) rfl rfl hn5 tyX5_ok nmX5 (Nat.le_of_ble_eq_true rfl) rfl rfl (List.mem_cons_of_mem _ (List.mem_append_left _ (List.mem_append_left _ (List.mem_append_left _ (List.mem_of_getElem? (i := 2) rfl))))) (Or.inl rfl) rfl (tyX5_ok _ (Nat.le_of_ble_eq_true rfl)) g_4 dX5_leastYards_13 ?_
  refine go_toph eh_3 ?_
  refine go_aload_n hC dX5_leastYards_16 rfl 0 rfl ?_
  refine go_ldc hC (v := 1000000) (List.mem_cons_of_mem _ (List.mem_append_left _ (List.mem_append_left _ (List.mem_append_left _ (List.mem_of_getElem? (i := 3) rfl))))) dX5_leastYards_17 ?_
  obtain ⟨h_5, eh_5, hf⟩ := lt_e hf
  refine go_puti hC tyX5 (j := 6) (idx := 42) (nm := "leastSum") (ds := "I") (b_27 _) rfl rfl hn5 tyX5_ok nmX5 (Nat.le_of_ble_eq_true rfl) rfl rfl (List.mem_cons_of_mem _ (List.mem_append_left _ (List.mem_append_left _ (List.mem_append_left _ (List.mem_of_getElem? (i := 4) rfl))))) (Or.inl rfl) rfl (tyX5_ok _ (Nat.le_of_ble_eq_true rfl)) dX5_leastYards_19 ?_
  refine go_toph eh_5 ?_
  refine go_iconst hC dX5_leastYards_22 k1_0 ?_
  refine go_istore hC dX5_leastYards_23 (Nat.le_of_ble_eq_true rfl) rfl ?_
  obtain ⟨s_18, hl, hf⟩ := bd_e1 hf
  refine go_sub [1, 2, 0] rfl ?_
  refine lw_X5_leastYards_25 hC  _ 0 h_5 s_18 hl ?_
  refine go_aload_n hC dX5_leastYards_53 rfl 0 rfl ?_
  refine go_aload_n hC dX5_leastYards_54 rfl 1 rfl ?_
  obtain ⟨r_19, h_20, hc, hf⟩ := bd_e2 hf
  refine go_callV hC (c_X5_gatherRooms s_18.2 h_20 hc) gX5_leastYards_X5_gatherRooms rfl ⟨rfl, rfl⟩ 1 e_X5_gatherRooms ⟨Nat.le_of_ble_eq_true rfl, Nat.le_of_ble_eq_true rfl⟩ (b_27 _) rfl rfl (st := []) (st1 := []) rfl rfl (Nat.le_of_ble_eq_true rfl) ⟨Nat.zero_le _, Nat.zero_le _⟩ dX5_leastYards_55 ?_
  refine go_aload_n hC dX5_leastYards_58 rfl 0 rfl ?_
  refine go_aload_n hC dX5_leastYards_59 rfl 1 rfl ?_
  refine go_iconst hC dX5_leastYards_60 k1_0 ?_
  refine go_iconst hC dX5_leastYards_61 k1_0 ?_
  refine go_iconst hC dX5_leastYards_62 k1_0 ?_
  obtain ⟨r_21, h_22, hc, hf⟩ := bd_e2 hf
  refine go_callV hC (c_X5_settle 12 0 0 0 h_20 h_22 hc) gX5_leastYards_X5_settle rfl ⟨rfl, rfl⟩ 4 e_X5_settle ⟨Nat.le_of_ble_eq_true rfl, Nat.le_of_ble_eq_true rfl⟩ (b_27 _) rfl rfl (st := []) (st1 := []) rfl rfl (Nat.le_of_ble_eq_true rfl) ⟨Nat.zero_le _, Nat.zero_le _⟩ dX5_leastYards_63 ?_
  refine go_aload_n hC dX5_leastYards_66 rfl 0 rfl ?_
  refine go_geti hC (j := 6) (idx := 42) (nm := "leastSum") (ds := "I") (b_27 _) rfl rfl hn5 (Nat.le_of_ble_eq_true rfl) rfl rfl (List.mem_cons_of_mem _ (List.mem_append_left _ (List.mem_append_left _ (List.mem_append_left _ (List.mem_of_getElem? (i := 4) rfl))))) (Or.inl rfl) dX5_leastYards_67 ?_
  obtain ⟨rfl, rfl⟩ := so_2 hf
  exact hret _ _ rfl dX5_leastYards_70
