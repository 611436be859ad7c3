/-- the first cells, as the constructors make them -/
def l0_B : List Ly := [.inr (11, [(3, 1), (3, 5), (3, 10), (3, 17), (3, 22), (0, 0), (3, 23), (3, 27), (3, 34), (3, 37), (3, 42), (0, 0)]), .inr (8, [(3, 2), (3, 3), (3, 4)]), .inl (0, 4), .inl (0, 4), .inl (0, 400), .inr (10, [(3, 6), (3, 7), (3, 8), (3, 9), (0, 0), (0, 0), (0, 0), (2, 4), (0, 0), (0, 0), (0, 0)]), .inl (0, 14), .inl (0, 14), .inl (0, 14), .inl (0, 14), .inr (3, [(0, 0), (0, 0), (0, 0), (3, 11), (3, 12), (3, 13), (3, 14), (3, 15), (3, 16)]), .inl (0, 14), .inl (0, 14), .inl (0, 14), .inl (0, 14), .inl (1, 14), .inl (0, 64), .inr (6, [(0, 0), (3, 18), (3, 19), (3, 20), (3, 21)]), .inl (0, 8), .inl (0, 8), .inl (0, 8), .inl (0, 8), .inl (3, 6), .inr (0, [(3, 24), (3, 25), (3, 26)]), .inl (0, 64), .inl (0, 8), .inl (0, 2048), .inr (5, [(3, 28), (3, 29), (3, 30), (3, 31), (3, 32), (3, 33), (0, 0), (0, 0), (0, 0), (0, 0)]), .inl (0, 256), .inl (0, 8), .inl (0, 8), .inl (0, 3), .inl (0, 3), .inl (0, 6), .inr (2, [(3, 35), (3, 36), (0, 0)]), .inl (0, 4), .inl (0, 4), .inr (4, [(0, 0), (0, 0), (3, 38), (3, 39), (3, 40), (3, 41)]), .inl (0, 12), .inl (0, 12), .inl (0, 256), .inl (0, 8), .inl (0, 1), .inr (12, [(0, 0), (0, 0), (0, 0), (0, 0), (3, 44), (3, 45), (3, 46), (3, 47), (3, 48), (0, 0), (0, 0), (0, 0), (0, 0), (0, 0), (3, 49), (3, 50), (3, 51), (3, 52), (3, 53), (0, 0), (3, 54), (3, 55), (3, 56), (0, 0), (3, 57), (3, 58), (3, 59), (3, 60), (3, 61), (1, 0), (3, 62), (3, 63), (3, 64), (0, 0), (0, 0), (0, 0), (0, 0), (0, 0), (3, 65), (3, 66), (3, 67), (3, 68), (3, 69), (3, 70), (0, 0)]), .inl (0, 14), .inl (0, 14), .inl (0, 14), .inl (0, 14), .inl (1, 14), .inl (0, 14), .inl (0, 14), .inl (0, 14), .inl (0, 14), .inl (0, 64), .inl (0, 8), .inl (0, 8), .inl (0, 8), .inl (1, 6), .inl (0, 6), .inl (0, 6), .inl (0, 6), .inl (0, 36), .inl (2, 7), .inl (0, 2304), .inl (0, 3), .inl (0, 12), .inl (0, 12), .inl (0, 4), .inl (0, 4), .inl (0, 400), .inl (0, 100)]
theorem b_0 (d : List Ly) : (l0_B ++ d)[0]? = some (.inr (11, [(3, 1), (3, 5), (3, 10), (3, 17), (3, 22), (0, 0), (3, 23), (3, 27), (3, 34), (3, 37), (3, 42), (0, 0)])) := rfl
theorem b_1 (d : List Ly) : (l0_B ++ d)[1]? = some (.inr (8, [(3, 2), (3, 3), (3, 4)])) := rfl
theorem b_2 (d : List Ly) : (l0_B ++ d)[2]? = some (.inl (0, 4)) := rfl
theorem b_3 (d : List Ly) : (l0_B ++ d)[3]? = some (.inl (0, 4)) := rfl
theorem b_4 (d : List Ly) : (l0_B ++ d)[4]? = some (.inl (0, 400)) := rfl
theorem b_5 (d : List Ly) : (l0_B ++ d)[5]? = some (.inr (10, [(3, 6), (3, 7), (3, 8), (3, 9), (0, 0), (0, 0), (0, 0), (2, 4), (0, 0), (0, 0), (0, 0)])) := rfl
theorem b_6 (d : List Ly) : (l0_B ++ d)[6]? = some (.inl (0, 14)) := rfl
theorem b_7 (d : List Ly) : (l0_B ++ d)[7]? = some (.inl (0, 14)) := rfl
theorem b_8 (d : List Ly) : (l0_B ++ d)[8]? = some (.inl (0, 14)) := rfl
theorem b_9 (d : List Ly) : (l0_B ++ d)[9]? = some (.inl (0, 14)) := rfl
theorem b_10 (d : List Ly) : (l0_B ++ d)[10]? = some (.inr (3, [(0, 0), (0, 0), (0, 0), (3, 11), (3, 12), (3, 13), (3, 14), (3, 15), (3, 16)])) := rfl
theorem b_11 (d : List Ly) : (l0_B ++ d)[11]? = some (.inl (0, 14)) := rfl
theorem b_12 (d : List Ly) : (l0_B ++ d)[12]? = some (.inl (0, 14)) := rfl
theorem b_13 (d : List Ly) : (l0_B ++ d)[13]? = some (.inl (0, 14)) := rfl
theorem b_14 (d : List Ly) : (l0_B ++ d)[14]? = some (.inl (0, 14)) := rfl
theorem b_15 (d : List Ly) : (l0_B ++ d)[15]? = some (.inl (1, 14)) := rfl
theorem b_16 (d : List Ly) : (l0_B ++ d)[16]? = some (.inl (0, 64)) := rfl
theorem b_17 (d : List Ly) : (l0_B ++ d)[17]? = some (.inr (6, [(0, 0), (3, 18), (3, 19), (3, 20), (3, 21)])) := rfl
theorem b_18 (d : List Ly) : (l0_B ++ d)[18]? = some (.inl (0, 8)) := rfl
theorem b_19 (d : List Ly) : (l0_B ++ d)[19]? = some (.inl (0, 8)) := rfl
theorem b_20 (d : List Ly) : (l0_B ++ d)[20]? = some (.inl (0, 8)) := rfl
theorem b_21 (d : List Ly) : (l0_B ++ d)[21]? = some (.inl (0, 8)) := rfl
theorem b_22 (d : List Ly) : (l0_B ++ d)[22]? = some (.inl (3, 6)) := rfl
theorem b_23 (d : List Ly) : (l0_B ++ d)[23]? = some (.inr (0, [(3, 24), (3, 25), (3, 26)])) := rfl
theorem b_24 (d : List Ly) : (l0_B ++ d)[24]? = some (.inl (0, 64)) := rfl
theorem b_25 (d : List Ly) : (l0_B ++ d)[25]? = some (.inl (0, 8)) := rfl
theorem b_26 (d : List Ly) : (l0_B ++ d)[26]? = some (.inl (0, 2048)) := rfl
theorem b_27 (d : List Ly) : (l0_B ++ d)[27]? = some (.inr (5, [(3, 28), (3, 29), (3, 30), (3, 31), (3, 32), (3, 33), (0, 0), (0, 0), (0, 0), (0, 0)])) := rfl
theorem b_28 (d : List Ly) : (l0_B ++ d)[28]? = some (.inl (0, 256)) := rfl
theorem b_29 (d : List Ly) : (l0_B ++ d)[29]? = some (.inl (0, 8)) := rfl
theorem b_30 (d : List Ly) : (l0_B ++ d)[30]? = some (.inl (0, 8)) := rfl
theorem b_31 (d : List Ly) : (l0_B ++ d)[31]? = some (.inl (0, 3)) := rfl
theorem b_32 (d : List Ly) : (l0_B ++ d)[32]? = some (.inl (0, 3)) := rfl
theorem b_33 (d : List Ly) : (l0_B ++ d)[33]? = some (.inl (0, 6)) := rfl
theorem b_34 (d : List Ly) : (l0_B ++ d)[34]? = some (.inr (2, [(3, 35), (3, 36), (0, 0)])) := rfl
theorem b_35 (d : List Ly) : (l0_B ++ d)[35]? = some (.inl (0, 4)) := rfl
theorem b_36 (d : List Ly) : (l0_B ++ d)[36]? = some (.inl (0, 4)) := rfl
theorem b_37 (d : List Ly) : (l0_B ++ d)[37]? = some (.inr (4, [(0, 0), (0, 0), (3, 38), (3, 39), (3, 40), (3, 41)])) := rfl
theorem b_38 (d : List Ly) : (l0_B ++ d)[38]? = some (.inl (0, 12)) := rfl
theorem b_39 (d : List Ly) : (l0_B ++ d)[39]? = some (.inl (0, 12)) := rfl
theorem b_40 (d : List Ly) : (l0_B ++ d)[40]? = some (.inl (0, 256)) := rfl
theorem b_41 (d : List Ly) : (l0_B ++ d)[41]? = some (.inl (0, 8)) := rfl
theorem b_42 (d : List Ly) : (l0_B ++ d)[42]? = some (.inl (0, 1)) := rfl
theorem b_43 (d : List Ly) : (l0_B ++ d)[43]? = some (.inr (12, [(0, 0), (0, 0), (0, 0), (0, 0), (3, 44), (3, 45), (3, 46), (3, 47), (3, 48), (0, 0), (0, 0), (0, 0), (0, 0), (0, 0), (3, 49), (3, 50), (3, 51), (3, 52), (3, 53), (0, 0), (3, 54), (3, 55), (3, 56), (0, 0), (3, 57), (3, 58), (3, 59), (3, 60), (3, 61), (1, 0), (3, 62), (3, 63), (3, 64), (0, 0), (0, 0), (0, 0), (0, 0), (0, 0), (3, 65), (3, 66), (3, 67), (3, 68), (3, 69), (3, 70), (0, 0)])) := rfl
theorem b_44 (d : List Ly) : (l0_B ++ d)[44]? = some (.inl (0, 14)) := rfl
theorem b_45 (d : List Ly) : (l0_B ++ d)[45]? = some (.inl (0, 14)) := rfl
theorem b_46 (d : List Ly) : (l0_B ++ d)[46]? = some (.inl (0, 14)) := rfl
theorem b_47 (d : List Ly) : (l0_B ++ d)[47]? = some (.inl (0, 14)) := rfl
theorem b_48 (d : List Ly) : (l0_B ++ d)[48]? = some (.inl (1, 14)) := rfl
theorem b_49 (d : List Ly) : (l0_B ++ d)[49]? = some (.inl (0, 14)) := rfl
theorem b_50 (d : List Ly) : (l0_B ++ d)[50]? = some (.inl (0, 14)) := rfl
theorem b_51 (d : List Ly) : (l0_B ++ d)[51]? = some (.inl (0, 14)) := rfl
theorem b_52 (d : List Ly) : (l0_B ++ d)[52]? = some (.inl (0, 14)) := rfl
theorem b_53 (d : List Ly) : (l0_B ++ d)[53]? = some (.inl (0, 64)) := rfl
theorem b_54 (d : List Ly) : (l0_B ++ d)[54]? = some (.inl (0, 8)) := rfl
theorem b_55 (d : List Ly) : (l0_B ++ d)[55]? = some (.inl (0, 8)) := rfl
theorem b_56 (d : List Ly) : (l0_B ++ d)[56]? = some (.inl (0, 8)) := rfl
theorem b_57 (d : List Ly) : (l0_B ++ d)[57]? = some (.inl (1, 6)) := rfl
theorem b_58 (d : List Ly) : (l0_B ++ d)[58]? = some (.inl (0, 6)) := rfl
theorem b_59 (d : List Ly) : (l0_B ++ d)[59]? = some (.inl (0, 6)) := rfl
theorem b_60 (d : List Ly) : (l0_B ++ d)[60]? = some (.inl (0, 6)) := rfl
theorem b_61 (d : List Ly) : (l0_B ++ d)[61]? = some (.inl (0, 36)) := rfl
theorem b_62 (d : List Ly) : (l0_B ++ d)[62]? = some (.inl (2, 7)) := rfl
theorem b_63 (d : List Ly) : (l0_B ++ d)[63]? = some (.inl (0, 2304)) := rfl
theorem b_64 (d : List Ly) : (l0_B ++ d)[64]? = some (.inl (0, 3)) := rfl
theorem b_65 (d : List Ly) : (l0_B ++ d)[65]? = some (.inl (0, 12)) := rfl
theorem b_66 (d : List Ly) : (l0_B ++ d)[66]? = some (.inl (0, 12)) := rfl
theorem b_67 (d : List Ly) : (l0_B ++ d)[67]? = some (.inl (0, 4)) := rfl
theorem b_68 (d : List Ly) : (l0_B ++ d)[68]? = some (.inl (0, 4)) := rfl
theorem b_69 (d : List Ly) : (l0_B ++ d)[69]? = some (.inl (0, 400)) := rfl
theorem b_70 (d : List Ly) : (l0_B ++ d)[70]? = some (.inl (0, 100)) := rfl
theorem k16_1000 : (Int16.ofInt (1000)).toInt32 = (1000 : Int32) := by decide +kernel
theorem k16_200 : (Int16.ofInt (200)).toInt32 = (200 : Int32) := by decide +kernel
theorem k1_0 : Int32.ofInt (0) = (0 : Int32) := by decide +kernel
theorem k1_1 : Int32.ofInt (1) = (1 : Int32) := by decide +kernel
theorem k1_2 : Int32.ofInt (2) = (2 : Int32) := by decide +kernel
theorem k1_3 : Int32.ofInt (3) = (3 : Int32) := by decide +kernel
theorem k1_4 : Int32.ofInt (4) = (4 : Int32) := by decide +kernel
theorem k1_5 : Int32.ofInt (5) = (5 : Int32) := by decide +kernel
theorem k1_m1 : Int32.ofInt (-1) = ((-1) : Int32) := by decide +kernel
theorem k8_10 : (Int8.ofInt (10)).toInt32 = (10 : Int32) := by decide +kernel
theorem k8_100 : (Int8.ofInt (100)).toInt32 = (100 : Int32) := by decide +kernel
theorem k8_104 : (Int8.ofInt (104)).toInt32 = (104 : Int32) := by decide +kernel
theorem k8_12 : (Int8.ofInt (12)).toInt32 = (12 : Int32) := by decide +kernel
theorem k8_14 : (Int8.ofInt (14)).toInt32 = (14 : Int32) := by decide +kernel
theorem k8_16 : (Int8.ofInt (16)).toInt32 = (16 : Int32) := by decide +kernel
theorem k8_20 : (Int8.ofInt (20)).toInt32 = (20 : Int32) := by decide +kernel
theorem k8_31 : (Int8.ofInt (31)).toInt32 = (31 : Int32) := by decide +kernel
theorem k8_48 : (Int8.ofInt (48)).toInt32 = (48 : Int32) := by decide +kernel
theorem k8_59 : (Int8.ofInt (59)).toInt32 = (59 : Int32) := by decide +kernel
theorem k8_6 : (Int8.ofInt (6)).toInt32 = (6 : Int32) := by decide +kernel
theorem k8_63 : (Int8.ofInt (63)).toInt32 = (63 : Int32) := by decide +kernel
theorem k8_64 : (Int8.ofInt (64)).toInt32 = (64 : Int32) := by decide +kernel
theorem k8_70 : (Int8.ofInt (70)).toInt32 = (70 : Int32) := by decide +kernel
theorem k8_8 : (Int8.ofInt (8)).toInt32 = (8 : Int32) := by decide +kernel
theorem k8_9 : (Int8.ofInt (9)).toInt32 = (9 : Int32) := by decide +kernel
theorem k8_98 : (Int8.ofInt (98)).toInt32 = (98 : Int32) := by decide +kernel
theorem k8_99 : (Int8.ofInt (99)).toInt32 = (99 : Int32) := by decide +kernel
theorem k8_m10 : (Int8.ofInt (-10)).toInt32 = ((-10) : Int32) := by decide +kernel
theorem k8_m100 : (Int8.ofInt (-100)).toInt32 = ((-100) : Int32) := by decide +kernel
theorem k8_m2 : (Int8.ofInt (-2)).toInt32 = ((-2) : Int32) := by decide +kernel
theorem k8_m3 : (Int8.ofInt (-3)).toInt32 = ((-3) : Int32) := by decide +kernel
theorem k8_m4 : (Int8.ofInt (-4)).toInt32 = ((-4) : Int32) := by decide +kernel
theorem k8_m9 : (Int8.ofInt (-9)).toInt32 = ((-9) : Int32) := by decide +kernel
/-- a way at the cell o: its kind's class, the cell of its row of points, how many there are -/
def ch_at (h : PH) (o : Nat) : Option (Nat × Nat × Nat) := match (l0_B ++ h.2.2.2)[o]? with
  | some (.inr (ci, [k0, k1, k2])) => if (ci = 1 ∨ ci = 7 ∨ ci = 9) ∧ k0 = (0, 0) ∧ k1 = (0, 0) ∧ k2.1 = 2 then (match (l0_B ++ h.2.2.2)[k2.2]? with
    | some (.inl a) => if a.1 = 0 then some (ci, k2.2, a.2) else none
    | _ => none) else none
  | _ => none
theorem ch_e {h : PH} {o : Nat} {q : Nat × Nat × Nat} (hq : ch_at h o = some q) : (q.1 = 1 ∨ q.1 = 7 ∨ q.1 = 9) ∧ (l0_B ++ h.2.2.2)[o]? = some (.inr (q.1, [(0, 0), (0, 0), (2, q.2.1)])) ∧ (l0_B ++ h.2.2.2)[q.2.1]? = some (.inl (0, q.2.2)) := by
  unfold ch_at at hq
  split at hq
  · next ci k0 k1 k2 ho =>
    split at hq
    · next hk =>
      obtain ⟨hci, rfl, rfl, h2⟩ := hk
      split at hq
      · next a ha =>
        split at hq
        · next h0 =>
          cases hq
          obtain ⟨u, v⟩ := k2
          obtain ⟨x, y⟩ := a
          cases h2
          cases h0
          exact ⟨hci, ho, ha⟩
        · cases hq
      · cases hq
    · cases hq
  · cases hq
theorem l0_le (d : List Ly) : 71 ≤ (l0_B ++ d).length := by rw [List.length_append]; exact Nat.le_add_right 71 d.length
theorem tb_4 {x : Int32} (c0 : ¬ x = 0) (c1 : ¬ x = 1) (c2 : ¬ x = 2) (c3 : ¬ x = 3) : x.toInt < 0 ∨ (3 : Int) < x.toInt := by
  have h := tb_of (x := x) (n := 4) (by decide) (fun j hj => match j, hj with
    | 0, _ => c0
    | 1, _ => c1
    | 2, _ => c2
    | 3, _ => c3
    | j + 4, hj => absurd hj (by omega))
  exact h
theorem tb_5 {x : Int32} (c0 : ¬ x = 0) (c1 : ¬ x = 1) (c2 : ¬ x = 2) (c3 : ¬ x = 3) (c4 : ¬ x = 4) : x.toInt < 0 ∨ (4 : Int) < x.toInt := by
  have h := tb_of (x := x) (n := 5) (by decide) (fun j hj => match j, hj with
    | 0, _ => c0
    | 1, _ => c1
    | 2, _ => c2
    | 3, _ => c3
    | 4, _ => c4
    | j + 5, hj => absurd hj (by omega))
  exact h
theorem tb_6 {x : Int32} (c0 : ¬ x = 0) (c1 : ¬ x = 1) (c2 : ¬ x = 2) (c3 : ¬ x = 3) (c4 : ¬ x = 4) (c5 : ¬ x = 5) : x.toInt < 0 ∨ (5 : Int) < x.toInt := by
  have h := tb_of (x := x) (n := 6) (by decide) (fun j hj => match j, hj with
    | 0, _ => c0
    | 1, _ => c1
    | 2, _ => c2
    | 3, _ => c3
    | 4, _ => c4
    | 5, _ => c5
    | j + 6, hj => absurd hj (by omega))
  exact h
