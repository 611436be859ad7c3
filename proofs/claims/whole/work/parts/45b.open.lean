set_option maxHeartbeats 40000000 in
set_option maxRecDepth 100000 in
/-- THE LAW, from its entry, out of what is to be shown of the pure programs -/
theorem whole_open (HP : ∀ (Ln : Nat) (xs : Nat → Int32), Ln ≤ 3584 → ∃ I : Int32 → PH → Prop, I 0 hF_0 ∧ (∀ x h, I x h → wf_H l0_B h) ∧ (∀ x h t, I x h → lb_law Ln xs x h = some (.inl t) → I t.1 t.2) ∧ ∃ y, lp_f (fun s => lb_law Ln xs s.1 s.2) fu_l (0, hF_0) = some y) {p : Program} {e : Env} {s : State} {m : MethodId} {below : List Frame} {meth : Method} {c : Code} (l : Launch) {b L : Nat} {xs : Nat → Int32} (hL : L ≤ 3584) (C0 : lw_At p s m meth c b L xs) : W p l e room_1 s m #[Value.ref b] below meth c s.heap [] 0 0 (lw_Z below #[Value.ref b] s) (entryFrame m ([Value.ref b] : List Value).toArray 4) := by
  obtain ⟨hx, hb, hr, hml, hown, hts, hX, hbl, hlocks, hgv⟩ := id C0
  obtain ⟨c0, i0, hK0⟩ := u_known (C := RX0) (T := TX0) (N := 3) (n := 3) hts li_X0 (hts (.instantiable RX0 3) (List.mem_of_getElem? (i := 252) (by decide +kernel)))
  obtain ⟨c1, i1, hK1⟩ := u_known (C := RX1) (T := TX1) (N := 3) (n := 3) hts li_X1 (hts (.instantiable RX1 3) (List.mem_of_getElem? (i := 575) (by decide +kernel)))
  obtain ⟨c2, i2, hK2⟩ := u_known (C := RX2) (T := TX2) (N := 3) (n := 3) hts li_X2 (hts (.instantiable RX2 3) (List.mem_of_getElem? (i := 307) (by decide +kernel)))
  obtain ⟨c3, i3, hK3⟩ := u_known (C := RX3) (T := TX3) (N := 9) (n := 9) hts li_X3 (hts (.instantiable RX3 9) (List.mem_of_getElem? (i := 167) (by decide +kernel)))
  obtain ⟨c4, i4, hK4⟩ := u_known (C := RX4) (T := TX4) (N := 6) (n := 6) hts li_X4 (hts (.instantiable RX4 6) (List.mem_of_getElem? (i := 324) (by decide +kernel)))
  obtain ⟨c5, i5, hK5⟩ := u_known (C := RX5) (T := TX5) (N := 10) (n := 10) hts li_X5 (hts (.instantiable RX5 10) (List.mem_of_getElem? (i := 268) (by decide +kernel)))
  obtain ⟨c6, i6, hK6⟩ := u_known (C := RX6) (T := TX6) (N := 5) (n := 5) hts li_X6 (hts (.instantiable RX6 5) (List.mem_of_getElem? (i := 213) (by decide +kernel)))
  obtain ⟨c7, i7, hK7⟩ := u_known (C := RX7) (T := TX7) (N := 3) (n := 3) hts li_X7 (hts (.instantiable RX7 3) (List.mem_of_getElem? (i := 595) (by decide +kernel)))
  obtain ⟨c8, i8, hK8⟩ := u_known (C := RX8) (T := TX8) (N := 3) (n := 3) hts li_X8 (hts (.instantiable RX8 3) (List.mem_of_getElem? (i := 101) (by decide +kernel)))
  obtain ⟨c9, i9, hK9⟩ := u_known (C := RX9) (T := TX9) (N := 3) (n := 3) hts li_X9 (hts (.instantiable RX9 3) (List.mem_of_getElem? (i := 605) (by decide +kernel)))
  obtain ⟨c10, i10, hK10⟩ := u_known (C := RX10) (T := TX10) (N := 11) (n := 11) hts li_X10 (hts (.instantiable RX10 11) (List.mem_of_getElem? (i := 120) (by decide +kernel)))
  obtain ⟨c11, i11, hK11⟩ := u_known (C := RX11) (T := TX11) (N := 12) (n := 12) hts li_X11 (hts (.instantiable RX11 12) (List.mem_of_getElem? (i := 93) (by decide +kernel)))
  obtain ⟨c12, i12, hK12⟩ := u_known (C := RX12) (T := TX12) (N := 45) (n := 45) hts li_X12 (hts (.instantiable RX12 45) (List.mem_of_getElem? (i := 1104) (by decide +kernel)))
  obtain ⟨dC, dI, hKc⟩ : ∃ (dC : Nat → ClassId) (dI : Nat → Nat → Nat), ∀ (k : Nat) (q : vw_C), vwCl[k]? = some q → u_Kn s q.1 q.2.1 q.2.2 (dC k) (dI k) := by
    refine ⟨fun k => match k with | 0 => c0 | 1 => c1 | 2 => c2 | 3 => c3 | 4 => c4 | 5 => c5 | 6 => c6 | 7 => c7 | 8 => c8 | 9 => c9 | 10 => c10 | 11 => c11 | _ => c12, fun k => match k with | 0 => i0 | 1 => i1 | 2 => i2 | 3 => i3 | 4 => i4 | 5 => i5 | 6 => i6 | 7 => i7 | 8 => i8 | 9 => i9 | 10 => i10 | 11 => i11 | _ => i12, ?_⟩
    intro k q hq
    match k, hq with
    | 0, hq => cases hq; exact hK0
    | 1, hq => cases hq; exact hK1
    | 2, hq => cases hq; exact hK2
    | 3, hq => cases hq; exact hK3
    | 4, hq => cases hq; exact hK4
    | 5, hq => cases hq; exact hK5
    | 6, hq => cases hq; exact hK6
    | 7, hq => cases hq; exact hK7
    | 8, hq => cases hq; exact hK8
    | 9, hq => cases hq; exact hK9
    | 10, hq => cases hq; exact hK10
    | 11, hq => cases hq; exact hK11
    | 12, hq => cases hq; exact hK12
    | k + 13, hq => exact absurd (List.getElem?_eq_some_iff.mp hq).1 (by simp)
  obtain ⟨y0, ky0, cm0, g0a, g0b, g0c⟩ := Cond.arrayClass_spec (hts (.arrayClass .int) (List.mem_of_getElem? (i := 118) (by decide +kernel)))
  obtain ⟨y1, ky1, cm1, g1a, g1b, g1c⟩ := Cond.arrayClass_spec (hts (.arrayClass .boolean) (List.mem_of_getElem? (i := 211) (by decide +kernel)))
  obtain ⟨y2, ky2, cm2, g2a, g2b, g2c⟩ := Cond.arrayClass_spec (hts (.arrayClass .long) (List.mem_of_getElem? (i := 1245) (by decide +kernel)))
  have hAO : va_AO "LampWays$Chain" s := va_AO.of (hts (.arrayOver (.object "LampWays$Chain")) (List.mem_of_getElem? (i := 250) (by decide +kernel)))
  obtain ⟨cm3, y3, ky3, g3d, -, g3b, g3c, g3a⟩ := Cond.arrayOver_spec hAO
  obtain ⟨cy, hcy⟩ : ∃ cy : Nat → ClassId, va_K (dC, dI) vwCl (ty_l cy) s := by
    refine ⟨fun k => match k with | 0 => y0 | 1 => y1 | 2 => y2 | _ => y3, hKc, ?_⟩
    intro k q hq
    match k, hq with
    | 0, hq => cases hq; exact ⟨fun n z => ⟨fun k h => (by cases h), ky0, g0b, cm0, g0c⟩, g0a⟩
    | 1, hq => cases hq; exact ⟨fun n z => ⟨fun k h => (by cases h), ky1, g1b, cm1, g1c⟩, g1a⟩
    | 2, hq => cases hq; exact ⟨fun n z => ⟨fun k h => (by cases h), ky2, g2b, cm2, g2c⟩, g2a⟩
    | 3, hq => cases hq; exact ⟨fun n z => ⟨fun k h => (by cases h), ky3, g3b, cm3, g3c⟩, ky3, cm3, g3b, g3c, g3d, g3a⟩
    | k + 4, hq => exact absurd (List.getElem?_eq_some_iff.mp hq).1 (by simp)
  have hs := flat_of_before _ hgv
  have hkz : kz_P (dC, dI) cy s := ⟨hcy, va_Nw.of rfl (hts (.castable "LampWays$Ring" "LampWays$Chain") (List.mem_of_getElem? (i := 1620) (by decide +kernel))), va_Nw.of rfl (hts (.castable "LampWays$Strong" "LampWays$Chain") (List.mem_of_getElem? (i := 1621) (by decide +kernel))), va_Nw.of rfl (hts (.castable "LampWays$Strong" "LampWays$Ring") (List.mem_of_getElem? (i := 1619) (by decide +kernel))), va_Nc.of (hs (Cond.not (.castable "LampWays$Chain" "LampWays$Ring")) (by decide +kernel)), va_Nc.of (hs (Cond.not (.castable "LampWays$Chain" "LampWays$Strong")) (by decide +kernel)), va_Nc.of (hs (Cond.not (.castable "LampWays$Ring" "LampWays$Strong")) (by decide +kernel)), hAO⟩
  obtain ⟨I, hI0, hIw, hIs, y9, hlp⟩ := HP L xs hL
  have hts2 : ∀ w ∈ wsL_law2, w.before #[Value.ref b] s = true := fun w hw => hts w (li_law w hw)
  let C : GC := (p, l, e, room_1, s, m, #[Value.ref b], below, meth, c, (dC, dI), cy, (fun q : Nat => s.heap.size ≤ q), 4, (fun ad => ad 1000000 = b), lw_Z below #[Value.ref b] s)
  have hC : Cx C cL_law 4 wsL_law2 RL (some .boolean) room_1 := ⟨hx, hb, hml, rfl, rfl, hown, hts2, hkz, hr, hlocks, fun q h => h⟩
  have hAR : ∀ n, cx_AR C n := fun n ad ad2 h1 h2 => (h2 1000000 (Or.inr (Nat.le_refl _))).trans h1
  have hXs : cx_S C L xs := ⟨b, fun ad h => h, hX, hbl, Nat.not_le.mpr hbl⟩
  have hk : ∀ (ce sl : Nat) (L : List (Nat × Value)) (h : PH), ce ≤ 600000 → sl ≤ 7302250 → Go l0_B C ce sl 1682 L [] h := by
    intro ce sl L2 h h1 h2
    refine go_iconst hC dL_law_1682 k1_1 ?_
    intro ad H locs ls ha hW hS hl
    refine va_forget (fun q hq => hS.2.2 q hq) ?_
    refine W.widen (k := 600000) (n := 7302250) h1 h2 ?_
    exact lw_ret hx hb hr hlocks dL_law_1683
  have hgo : Go [] C 0 0 0 [(0, .ref 1000000)] [] hs_0 := by
    refine go_new hC (ci := 11) (ks := [(2, 1), (2, 5), (2, 10), (2, 17), (2, 22), (0, 0), (2, 23), (2, 27), (2, 34), (2, 37), (2, 42), (0, 0)]) tyX11 rfl (fun _ hw => (List.mem_append_left _ (List.mem_append_left _ (List.mem_append_left _ (List.mem_append_left _ (List.mem_append_left _ (List.mem_append_left _ (List.mem_append_left _ (List.mem_append_left _ (List.mem_append_left _ (List.mem_append_left _ (List.mem_append_left _ (List.mem_append_left _ (List.mem_append_left _ (List.mem_append_left _ (List.mem_append_right _ hw)))))))))))))))) tyX11_ok (List.mem_append_left _ (List.mem_append_left _ (List.mem_append_left _ (List.mem_append_left _ (List.mem_append_left _ (List.mem_append_left _ (List.mem_append_left _ (List.mem_append_left _ (List.mem_append_left _ (List.mem_append_left _ (List.mem_append_left _ (List.mem_append_left _ (List.mem_append_left _ (List.mem_append_left _ (List.mem_append_left _ (List.mem_append_left _ (List.mem_of_getElem? (i := 0) rfl))))))))))))))))) (List.mem_append_left _ (List.mem_append_left _ (List.mem_append_left _ (List.mem_append_left _ (List.mem_append_left _ (List.mem_append_left _ (List.mem_append_left _ (List.mem_append_left _ (List.mem_append_left _ (List.mem_append_left _ (List.mem_append_left _ (List.mem_append_left _ (List.mem_append_left _ (List.mem_append_left _ (List.mem_append_left _ (List.mem_append_left _ (List.mem_of_getElem? (i := 1) rfl))))))))))))))))) (List.mem_append_left _ (List.mem_append_left _ (List.mem_append_left _ (List.mem_append_left _ (List.mem_append_left _ (List.mem_append_left _ (List.mem_append_left _ (List.mem_append_left _ (List.mem_append_left _ (List.mem_append_left _ (List.mem_append_left _ (List.mem_append_left _ (List.mem_append_left _ (List.mem_append_left _ (List.mem_append_left _ (List.mem_append_left _ (List.mem_of_getElem? (i := 2) rfl))))))))))))))))) hfs_11 (by decide) (Nat.le_of_ble_eq_true rfl) (Nat.le_of_ble_eq_true rfl) (by rw [hd_0]; rfl) wh_0 (Nat.le_of_ble_eq_true rfl) (hAR 0) (rl_ok (n := 0) rfl (Nat.le_refl _)) (rs_ok (n := 0) rfl (Nat.le_refl _)) dL_law_0 ?_
    refine go_toph (h1 := hs_1) rfl ?_
    refine go_dup hC dL_law_3 rfl ?_
    refine go_callI hC ci_X11_init (gi_l gL_law_X11_init) rfl 42 3387 ⟨rfl, rfl⟩ (List.mem_append_left _ (List.mem_append_left _ (List.mem_append_left _ (List.mem_append_left _ (List.mem_append_left _ (List.mem_append_left _ (List.mem_append_left _ (List.mem_append_left _ (List.mem_append_left _ (List.mem_append_left _ (List.mem_append_left _ (List.mem_append_left _ (List.mem_append_left _ (List.mem_append_left _ (List.mem_append_left _ (List.mem_append_left _ (List.mem_of_getElem? (i := 2) rfl))))))))))))))))) (List.mem_append_left _ (List.mem_append_left _ (List.mem_append_left _ (List.mem_append_left _ (List.mem_append_left _ (List.mem_append_left _ (List.mem_append_left _ (List.mem_append_left _ (List.mem_append_left _ (List.mem_append_left _ (List.mem_append_left _ (List.mem_append_left _ (List.mem_append_left _ (List.mem_append_left _ (List.mem_append_left _ (List.mem_append_left _ (List.mem_of_getElem? (i := 6) rfl))))))))))))))))) (List.mem_append_left _ (List.mem_append_left _ (List.mem_append_left _ (List.mem_append_left _ (List.mem_append_left _ (List.mem_append_left _ (List.mem_append_left _ (List.mem_append_left _ (List.mem_append_left _ (List.mem_append_left _ (List.mem_append_left _ (List.mem_append_left _ (List.mem_append_left _ (List.mem_append_left _ (List.mem_append_left _ (List.mem_append_left _ (List.mem_of_getElem? (i := 7) rfl))))))))))))))))) rfl 0 (by decide +kernel) ⟨Nat.le_of_ble_eq_true rfl, Nat.le_of_ble_eq_true rfl⟩ rfl rfl (Nat.le_of_ble_eq_true rfl) ⟨Nat.le_of_ble_eq_true rfl, Nat.le_of_ble_eq_true rfl⟩ (by rw [hd_1]; rfl) (hAR 1) (rl_ok (n := 1) rfl (Nat.le_refl _)) (rs_ok (n := 1) rfl (Nat.le_refl _)) dL_law_4 ?_
    refine go_astore_n hC dL_law_7 rfl (Nat.le_of_ble_eq_true rfl) rfl ?_
    refine go_new hC (ci := 12) (ks := [(0, 0), (0, 0), (0, 0), (0, 0), (2, 44), (2, 45), (2, 46), (2, 47), (2, 48), (0, 0), (0, 0), (0, 0), (0, 0), (0, 0), (2, 49), (2, 50), (2, 51), (2, 52), (2, 53), (0, 0), (2, 54), (2, 55), (2, 56), (0, 0), (2, 57), (2, 58), (2, 59), (2, 60), (2, 61), (1, 0), (2, 62), (2, 63), (2, 64), (0, 0), (0, 0), (0, 0), (0, 0), (0, 0), (2, 65), (2, 66), (2, 67), (2, 68), (2, 69), (2, 70), (0, 0)]) tyX12 rfl (fun _ hw => (List.mem_append_left _ (List.mem_append_left _ (List.mem_append_left _ (List.mem_append_left _ (List.mem_append_left _ (List.mem_append_left _ (List.mem_append_left _ (List.mem_append_left _ (List.mem_append_left _ (List.mem_append_left _ (List.mem_append_left _ (List.mem_append_left _ (List.mem_append_left _ (List.mem_append_right _ hw))))))))))))))) tyX12_ok (List.mem_append_left _ (List.mem_append_left _ (List.mem_append_left _ (List.mem_append_left _ (List.mem_append_left _ (List.mem_append_left _ (List.mem_append_left _ (List.mem_append_left _ (List.mem_append_left _ (List.mem_append_left _ (List.mem_append_left _ (List.mem_append_left _ (List.mem_append_left _ (List.mem_append_left _ (List.mem_append_left _ (List.mem_append_left _ (List.mem_of_getElem? (i := 3) rfl))))))))))))))))) (List.mem_append_left _ (List.mem_append_left _ (List.mem_append_left _ (List.mem_append_left _ (List.mem_append_left _ (List.mem_append_left _ (List.mem_append_left _ (List.mem_append_left _ (List.mem_append_left _ (List.mem_append_left _ (List.mem_append_left _ (List.mem_append_left _ (List.mem_append_left _ (List.mem_append_left _ (List.mem_append_left _ (List.mem_append_left _ (List.mem_of_getElem? (i := 4) rfl))))))))))))))))) (List.mem_append_left _ (List.mem_append_left _ (List.mem_append_left _ (List.mem_append_left _ (List.mem_append_left _ (List.mem_append_left _ (List.mem_append_left _ (List.mem_append_left _ (List.mem_append_left _ (List.mem_append_left _ (List.mem_append_left _ (List.mem_append_left _ (List.mem_append_left _ (List.mem_append_left _ (List.mem_append_left _ (List.mem_append_left _ (List.mem_of_getElem? (i := 5) rfl))))))))))))))))) hfs_12 (by decide) (Nat.le_of_ble_eq_true rfl) (Nat.le_of_ble_eq_true rfl) (by rw [hd_89]; rfl) wh_89 (Nat.le_of_ble_eq_true rfl) (hAR 43) (rl_ok (n := 43) rfl (Nat.le_refl _)) (rs_ok (n := 43) rfl (Nat.le_refl _)) dL_law_8 ?_
    refine go_toph (h1 := hs_90) rfl ?_
    refine go_dup hC dL_law_11 rfl ?_
    refine go_callI hC ci_X12_init (gi_l gL_law_X12_init) rfl 27 3120 ⟨rfl, rfl⟩ (List.mem_append_left _ (List.mem_append_left _ (List.mem_append_left _ (List.mem_append_left _ (List.mem_append_left _ (List.mem_append_left _ (List.mem_append_left _ (List.mem_append_left _ (List.mem_append_left _ (List.mem_append_left _ (List.mem_append_left _ (List.mem_append_left _ (List.mem_append_left _ (List.mem_append_left _ (List.mem_append_left _ (List.mem_append_left _ (List.mem_of_getElem? (i := 5) rfl))))))))))))))))) (List.mem_append_left _ (List.mem_append_left _ (List.mem_append_left _ (List.mem_append_left _ (List.mem_append_left _ (List.mem_append_left _ (List.mem_append_left _ (List.mem_append_left _ (List.mem_append_left _ (List.mem_append_left _ (List.mem_append_left _ (List.mem_append_left _ (List.mem_append_left _ (List.mem_append_left _ (List.mem_append_left _ (List.mem_append_right _ (List.mem_append_right _ (List.mem_append_right _ (List.mem_append_right _ (List.mem_append_left _ (List.mem_of_getElem? (i := 17) rfl))))))))))))))))))))) (List.mem_append_left _ (List.mem_append_left _ (List.mem_append_left _ (List.mem_append_left _ (List.mem_append_left _ (List.mem_append_left _ (List.mem_append_left _ (List.mem_append_left _ (List.mem_append_left _ (List.mem_append_left _ (List.mem_append_left _ (List.mem_append_left _ (List.mem_append_left _ (List.mem_append_left _ (List.mem_append_left _ (List.mem_append_right _ (List.mem_append_right _ (List.mem_append_right _ (List.mem_append_right _ (List.mem_append_left _ (List.mem_of_getElem? (i := 18) rfl))))))))))))))))))))) rfl 0 (by decide +kernel) ⟨Nat.le_of_ble_eq_true rfl, Nat.le_of_ble_eq_true rfl⟩ rfl rfl (Nat.le_of_ble_eq_true rfl) ⟨Nat.le_of_ble_eq_true rfl, Nat.le_of_ble_eq_true rfl⟩ (by rw [hd_90]; rfl) (hAR 44) (rl_ok (n := 44) rfl (Nat.le_refl _)) (rs_ok (n := 44) rfl (Nat.le_refl _)) dL_law_12 ?_
    refine go_astore_n hC dL_law_15 rfl (Nat.le_of_ble_eq_true rfl) rfl ?_
    refine go_cv ?_
    refine go_iconst hC dL_law_16 k1_0 ?_
    refine go_istore_n hC dL_law_17 rfl (Nat.le_of_ble_eq_true rfl) rfl ?_
    refine go_sub [3, 2, 1, 0] (L' := [(0, .ref 1000000), (1, .ref 0), (2, .ref 43), (3, .int 0)]) rfl ?_
    exact law_loop hC hXs (fun n _ => hAR n) I hIw hIs hk fu_l _ _ 0 hF_0 y9 hlp hI0 (Nat.le_of_ble_eq_true rfl) (Nat.le_of_ble_eq_true rfl)
  have hl := lv_entry ([.ref b]) (n := 4) (Nat.le_of_ble_eq_true rfl)
  rw [lg_entry_eq]
  refine hgo (fun k => b) s.heap [] _ rfl ⟨fun k q h => ?_, ⟨fun i j p q h => ?_, fun k q h => ?_⟩⟩ va_S.rf hl
  · simp [wl_s, hs_0] at h
  · simp [wl_s, hs_0] at h
  · simp [wl_s, hs_0] at h
