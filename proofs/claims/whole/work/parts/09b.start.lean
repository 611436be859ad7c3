/-! THE CLAIM OUT OF ONE WALK OF THE LAW'S BODY. Your part is whole_start (and what it stands on); all else here is the same for every law, but numbers. -/
def R_law : String := "LampWaysLaw"
def lw_P (b : Addr) (xs : List Int32) (args : Array Value) (s : State) : Prop := args = #[.ref b] ∧ s.IntsAt b xs ∧ xs.length ≤ 3584 ∧ (Jvm.Cond.and given_1 narrow_1).before args s = true
def lw_Q (_ : Array Value) (s : State) (o : Outcome) (t : State) : Prop := o = .returned (some (.int 1)) ∧ Framed s o t [] 600000 7302250
def lw_Z (below : List Frame) (a : Array Value) (s : State) : State → Prop := fun t => ∃ o, t.status = .running ∧ Ended t below o ∧ lw_Q a s o t
/-- the law's own end, with 1 on the stack, nothing written that was there before, its room as the claim has it -/
theorem lw_ret {p : Program} {l : Launch} {e : Env} {s : State} {m : MethodId} {below : List Frame} {meth : Method} {c : Code} {b : Nat} (hx : p.tables.exec = Jvm.exec) (hb : c.code = code) (hr : meth.sig.returnType = ret) (hlocks : meth.locks = false) {pc : Nat} {H : Heap} {ls : Array Slot} (hdg : decode code pc = .ok (.ireturn, 1)) : W p l e room_1 s m #[Value.ref b] below meth c H [] 600000 7302250 (lw_Z below #[Value.ref b] s) (F0 m pc ls [.int 1]) := by
  intro T hT X
  obtain ⟨fs, hret, hrun, hended, hW, hframe⟩ := X.leave (v := some (.int 1)) (hlocks := hlocks) (fun h => by rw [hr] at h; cases h)
  have hmeth' : T.vm.method? m = some meth := X.method'
  refine ⟨T.setFrames fs, ?_, .returned (some (.int 1)), hrun, hended, rfl, ⟨_, rfl⟩, hW, hframe⟩
  jvm_step X.here [X.here.top, hx, hb, hdg, hmeth', hr, ret, narrow_b1]
  (try refine ⟨rfl, ?_⟩); (try refine ⟨rfl, ?_⟩)
  first | (intro acts; rw [hret _ acts rfl rfl rfl]) | rw [hret _ _ rfl rfl rfl]
  exact Steps.refl _
/-- what holds at the law's entry: the machine, the code, the tables' words (any of lw_tbl by 'hts w (by decide +kernel)'), the script of L ints xs at the cell b, what the Statement gives of the start (any of its parts by flat_of_before) -/
def lw_At (p : Program) (s : State) (m : MethodId) (meth : Method) (c : Code) (b L : Nat) (xs : Nat → Int32) : Prop :=
  p.tables.exec = Jvm.exec ∧ c.code = code ∧ meth.sig.returnType = ret ∧ c.maxLocals = 4 ∧ s.vm.findClass R_law = some m.cls ∧ (∀ w ∈ lw_tbl, w.before #[Value.ref b] s = true) ∧ va_X b L xs s s.heap ∧ b < s.heap.size ∧ meth.locks = false ∧ (Jvm.Cond.and given_1 narrow_1).before #[Value.ref b] s = true
/-- the heap behind the constructors -/
def hF_0 : PH := (hs_148.1, hs_148.2.1, hs_148.2.2.1, [])
theorem fl_0_0 : ¬ hs_148.1 0 0 = 0 := by decide +kernel
theorem fl_0_1 : ¬ hs_148.1 0 1 = 0 := by decide +kernel
theorem fl_0_2 : ¬ hs_148.1 0 2 = 0 := by decide +kernel
theorem fl_0_3 : ¬ hs_148.1 0 3 = 0 := by decide +kernel
theorem fl_0_4 : ¬ hs_148.1 0 4 = 0 := by decide +kernel
theorem fl_0_6 : ¬ hs_148.1 0 6 = 0 := by decide +kernel
theorem fl_0_7 : ¬ hs_148.1 0 7 = 0 := by decide +kernel
theorem fl_0_8 : ¬ hs_148.1 0 8 = 0 := by decide +kernel
theorem fl_0_9 : ¬ hs_148.1 0 9 = 0 := by decide +kernel
theorem fl_0_10 : ¬ hs_148.1 0 10 = 0 := by decide +kernel
theorem fl_1_0 : ¬ hs_148.1 1 0 = 0 := by decide +kernel
theorem fl_1_1 : ¬ hs_148.1 1 1 = 0 := by decide +kernel
theorem fl_1_2 : ¬ hs_148.1 1 2 = 0 := by decide +kernel
theorem fl_5_0 : ¬ hs_148.1 5 0 = 0 := by decide +kernel
theorem fl_5_1 : ¬ hs_148.1 5 1 = 0 := by decide +kernel
theorem fl_5_2 : ¬ hs_148.1 5 2 = 0 := by decide +kernel
theorem fl_5_3 : ¬ hs_148.1 5 3 = 0 := by decide +kernel
theorem fl_10_3 : ¬ hs_148.1 10 3 = 0 := by decide +kernel
theorem fl_10_4 : ¬ hs_148.1 10 4 = 0 := by decide +kernel
theorem fl_10_5 : ¬ hs_148.1 10 5 = 0 := by decide +kernel
theorem fl_10_6 : ¬ hs_148.1 10 6 = 0 := by decide +kernel
theorem fl_10_7 : ¬ hs_148.1 10 7 = 0 := by decide +kernel
theorem fl_10_8 : ¬ hs_148.1 10 8 = 0 := by decide +kernel
theorem fl_17_1 : ¬ hs_148.1 17 1 = 0 := by decide +kernel
theorem fl_17_2 : ¬ hs_148.1 17 2 = 0 := by decide +kernel
theorem fl_17_3 : ¬ hs_148.1 17 3 = 0 := by decide +kernel
theorem fl_17_4 : ¬ hs_148.1 17 4 = 0 := by decide +kernel
theorem fl_23_0 : ¬ hs_148.1 23 0 = 0 := by decide +kernel
theorem fl_23_1 : ¬ hs_148.1 23 1 = 0 := by decide +kernel
theorem fl_23_2 : ¬ hs_148.1 23 2 = 0 := by decide +kernel
theorem fl_27_0 : ¬ hs_148.1 27 0 = 0 := by decide +kernel
theorem fl_27_1 : ¬ hs_148.1 27 1 = 0 := by decide +kernel
theorem fl_27_2 : ¬ hs_148.1 27 2 = 0 := by decide +kernel
theorem fl_27_3 : ¬ hs_148.1 27 3 = 0 := by decide +kernel
theorem fl_27_4 : ¬ hs_148.1 27 4 = 0 := by decide +kernel
theorem fl_27_5 : ¬ hs_148.1 27 5 = 0 := by decide +kernel
theorem fl_34_0 : ¬ hs_148.1 34 0 = 0 := by decide +kernel
theorem fl_34_1 : ¬ hs_148.1 34 1 = 0 := by decide +kernel
theorem fl_37_2 : ¬ hs_148.1 37 2 = 0 := by decide +kernel
theorem fl_37_3 : ¬ hs_148.1 37 3 = 0 := by decide +kernel
theorem fl_37_4 : ¬ hs_148.1 37 4 = 0 := by decide +kernel
theorem fl_37_5 : ¬ hs_148.1 37 5 = 0 := by decide +kernel
theorem fl_43_4 : ¬ hs_148.1 43 4 = 0 := by decide +kernel
theorem fl_43_5 : ¬ hs_148.1 43 5 = 0 := by decide +kernel
theorem fl_43_6 : ¬ hs_148.1 43 6 = 0 := by decide +kernel
theorem fl_43_7 : ¬ hs_148.1 43 7 = 0 := by decide +kernel
theorem fl_43_8 : ¬ hs_148.1 43 8 = 0 := by decide +kernel
theorem fl_43_14 : ¬ hs_148.1 43 14 = 0 := by decide +kernel
theorem fl_43_15 : ¬ hs_148.1 43 15 = 0 := by decide +kernel
theorem fl_43_16 : ¬ hs_148.1 43 16 = 0 := by decide +kernel
theorem fl_43_17 : ¬ hs_148.1 43 17 = 0 := by decide +kernel
theorem fl_43_18 : ¬ hs_148.1 43 18 = 0 := by decide +kernel
theorem fl_43_20 : ¬ hs_148.1 43 20 = 0 := by decide +kernel
theorem fl_43_21 : ¬ hs_148.1 43 21 = 0 := by decide +kernel
theorem fl_43_22 : ¬ hs_148.1 43 22 = 0 := by decide +kernel
theorem fl_43_24 : ¬ hs_148.1 43 24 = 0 := by decide +kernel
theorem fl_43_25 : ¬ hs_148.1 43 25 = 0 := by decide +kernel
theorem fl_43_26 : ¬ hs_148.1 43 26 = 0 := by decide +kernel
theorem fl_43_27 : ¬ hs_148.1 43 27 = 0 := by decide +kernel
theorem fl_43_28 : ¬ hs_148.1 43 28 = 0 := by decide +kernel
theorem fl_43_30 : ¬ hs_148.1 43 30 = 0 := by decide +kernel
theorem fl_43_31 : ¬ hs_148.1 43 31 = 0 := by decide +kernel
theorem fl_43_32 : ¬ hs_148.1 43 32 = 0 := by decide +kernel
theorem fl_43_38 : ¬ hs_148.1 43 38 = 0 := by decide +kernel
theorem fl_43_39 : ¬ hs_148.1 43 39 = 0 := by decide +kernel
theorem fl_43_40 : ¬ hs_148.1 43 40 = 0 := by decide +kernel
theorem fl_43_41 : ¬ hs_148.1 43 41 = 0 := by decide +kernel
theorem fl_43_42 : ¬ hs_148.1 43 42 = 0 := by decide +kernel
theorem fl_43_43 : ¬ hs_148.1 43 43 = 0 := by decide +kernel
theorem kd_23 (ad : Nat → Nat) {i : Nat → Int32} (j : Nat → Int64) {k : Nat} (q : Nat) (h : ¬ i k = 0) : pf_d ad i j k (2, q) = pf_d ad i j k (3, q) := by rw [pf_2s _ _ _ h, pf_3]
set_option maxRecDepth 100000 in
theorem cv_0 (cy : Nat → ClassId) (ad : Nat → Nat) (w : Nat → Option Nat) : pc_e cy ad (hs_148.1 0) (hs_148.2.1 0) w (.inr (11, [(2, 1), (2, 5), (2, 10), (2, 17), (2, 22), (0, 0), (2, 23), (2, 27), (2, 34), (2, 37), (2, 42), (0, 0)])) = pc_e cy ad (hs_148.1 0) (hs_148.2.1 0) w (.inr (11, [(3, 1), (3, 5), (3, 10), (3, 17), (3, 22), (0, 0), (3, 23), (3, 27), (3, 34), (3, 37), (3, 42), (0, 0)])) := by
  show Sum.inr (_, List.mapIdx _ _) = Sum.inr (_, List.mapIdx _ _)
  simp only [List.mapIdx_cons, List.mapIdx_nil, Function.comp_def]
  simp only [kd_23 ad (hs_148.2.1 0) 1 fl_0_0, kd_23 ad (hs_148.2.1 0) 5 fl_0_1, kd_23 ad (hs_148.2.1 0) 10 fl_0_2, kd_23 ad (hs_148.2.1 0) 17 fl_0_3, kd_23 ad (hs_148.2.1 0) 22 fl_0_4, kd_23 ad (hs_148.2.1 0) 23 fl_0_6, kd_23 ad (hs_148.2.1 0) 27 fl_0_7, kd_23 ad (hs_148.2.1 0) 34 fl_0_8, kd_23 ad (hs_148.2.1 0) 37 fl_0_9, kd_23 ad (hs_148.2.1 0) 42 fl_0_10]
set_option maxRecDepth 100000 in
theorem cv_1 (cy : Nat → ClassId) (ad : Nat → Nat) (w : Nat → Option Nat) : pc_e cy ad (hs_148.1 1) (hs_148.2.1 1) w (.inr (8, [(2, 2), (2, 3), (2, 4)])) = pc_e cy ad (hs_148.1 1) (hs_148.2.1 1) w (.inr (8, [(3, 2), (3, 3), (3, 4)])) := by
  show Sum.inr (_, List.mapIdx _ _) = Sum.inr (_, List.mapIdx _ _)
  simp only [List.mapIdx_cons, List.mapIdx_nil, Function.comp_def]
  simp only [kd_23 ad (hs_148.2.1 1) 2 fl_1_0, kd_23 ad (hs_148.2.1 1) 3 fl_1_1, kd_23 ad (hs_148.2.1 1) 4 fl_1_2]
set_option maxRecDepth 100000 in
theorem cv_5 (cy : Nat → ClassId) (ad : Nat → Nat) (w : Nat → Option Nat) : pc_e cy ad (hs_148.1 5) (hs_148.2.1 5) w (.inr (10, [(2, 6), (2, 7), (2, 8), (2, 9), (0, 0), (0, 0), (0, 0), (2, 4), (0, 0), (0, 0), (0, 0)])) = pc_e cy ad (hs_148.1 5) (hs_148.2.1 5) w (.inr (10, [(3, 6), (3, 7), (3, 8), (3, 9), (0, 0), (0, 0), (0, 0), (2, 4), (0, 0), (0, 0), (0, 0)])) := by
  show Sum.inr (_, List.mapIdx _ _) = Sum.inr (_, List.mapIdx _ _)
  simp only [List.mapIdx_cons, List.mapIdx_nil, Function.comp_def]
  simp only [kd_23 ad (hs_148.2.1 5) 6 fl_5_0, kd_23 ad (hs_148.2.1 5) 7 fl_5_1, kd_23 ad (hs_148.2.1 5) 8 fl_5_2, kd_23 ad (hs_148.2.1 5) 9 fl_5_3]
set_option maxRecDepth 100000 in
theorem cv_10 (cy : Nat → ClassId) (ad : Nat → Nat) (w : Nat → Option Nat) : pc_e cy ad (hs_148.1 10) (hs_148.2.1 10) w (.inr (3, [(0, 0), (0, 0), (0, 0), (2, 11), (2, 12), (2, 13), (2, 14), (2, 15), (2, 16)])) = pc_e cy ad (hs_148.1 10) (hs_148.2.1 10) w (.inr (3, [(0, 0), (0, 0), (0, 0), (3, 11), (3, 12), (3, 13), (3, 14), (3, 15), (3, 16)])) := by
  show Sum.inr (_, List.mapIdx _ _) = Sum.inr (_, List.mapIdx _ _)
  simp only [List.mapIdx_cons, List.mapIdx_nil, Function.comp_def]
  simp only [kd_23 ad (hs_148.2.1 10) 11 fl_10_3, kd_23 ad (hs_148.2.1 10) 12 fl_10_4, kd_23 ad (hs_148.2.1 10) 13 fl_10_5, kd_23 ad (hs_148.2.1 10) 14 fl_10_6, kd_23 ad (hs_148.2.1 10) 15 fl_10_7, kd_23 ad (hs_148.2.1 10) 16 fl_10_8]
set_option maxRecDepth 100000 in
theorem cv_17 (cy : Nat → ClassId) (ad : Nat → Nat) (w : Nat → Option Nat) : pc_e cy ad (hs_148.1 17) (hs_148.2.1 17) w (.inr (6, [(0, 0), (2, 18), (2, 19), (2, 20), (2, 21)])) = pc_e cy ad (hs_148.1 17) (hs_148.2.1 17) w (.inr (6, [(0, 0), (3, 18), (3, 19), (3, 20), (3, 21)])) := by
  show Sum.inr (_, List.mapIdx _ _) = Sum.inr (_, List.mapIdx _ _)
  simp only [List.mapIdx_cons, List.mapIdx_nil, Function.comp_def]
  simp only [kd_23 ad (hs_148.2.1 17) 18 fl_17_1, kd_23 ad (hs_148.2.1 17) 19 fl_17_2, kd_23 ad (hs_148.2.1 17) 20 fl_17_3, kd_23 ad (hs_148.2.1 17) 21 fl_17_4]
set_option maxRecDepth 100000 in
theorem cv_23 (cy : Nat → ClassId) (ad : Nat → Nat) (w : Nat → Option Nat) : pc_e cy ad (hs_148.1 23) (hs_148.2.1 23) w (.inr (0, [(2, 24), (2, 25), (2, 26)])) = pc_e cy ad (hs_148.1 23) (hs_148.2.1 23) w (.inr (0, [(3, 24), (3, 25), (3, 26)])) := by
  show Sum.inr (_, List.mapIdx _ _) = Sum.inr (_, List.mapIdx _ _)
  simp only [List.mapIdx_cons, List.mapIdx_nil, Function.comp_def]
  simp only [kd_23 ad (hs_148.2.1 23) 24 fl_23_0, kd_23 ad (hs_148.2.1 23) 25 fl_23_1, kd_23 ad (hs_148.2.1 23) 26 fl_23_2]
set_option maxRecDepth 100000 in
theorem cv_27 (cy : Nat → ClassId) (ad : Nat → Nat) (w : Nat → Option Nat) : pc_e cy ad (hs_148.1 27) (hs_148.2.1 27) w (.inr (5, [(2, 28), (2, 29), (2, 30), (2, 31), (2, 32), (2, 33), (0, 0), (0, 0), (0, 0), (0, 0)])) = pc_e cy ad (hs_148.1 27) (hs_148.2.1 27) w (.inr (5, [(3, 28), (3, 29), (3, 30), (3, 31), (3, 32), (3, 33), (0, 0), (0, 0), (0, 0), (0, 0)])) := by
  show Sum.inr (_, List.mapIdx _ _) = Sum.inr (_, List.mapIdx _ _)
  simp only [List.mapIdx_cons, List.mapIdx_nil, Function.comp_def]
  simp only [kd_23 ad (hs_148.2.1 27) 28 fl_27_0, kd_23 ad (hs_148.2.1 27) 29 fl_27_1, kd_23 ad (hs_148.2.1 27) 30 fl_27_2, kd_23 ad (hs_148.2.1 27) 31 fl_27_3, kd_23 ad (hs_148.2.1 27) 32 fl_27_4, kd_23 ad (hs_148.2.1 27) 33 fl_27_5]
set_option maxRecDepth 100000 in
theorem cv_34 (cy : Nat → ClassId) (ad : Nat → Nat) (w : Nat → Option Nat) : pc_e cy ad (hs_148.1 34) (hs_148.2.1 34) w (.inr (2, [(2, 35), (2, 36), (0, 0)])) = pc_e cy ad (hs_148.1 34) (hs_148.2.1 34) w (.inr (2, [(3, 35), (3, 36), (0, 0)])) := by
  show Sum.inr (_, List.mapIdx _ _) = Sum.inr (_, List.mapIdx _ _)
  simp only [List.mapIdx_cons, List.mapIdx_nil, Function.comp_def]
  simp only [kd_23 ad (hs_148.2.1 34) 35 fl_34_0, kd_23 ad (hs_148.2.1 34) 36 fl_34_1]
set_option maxRecDepth 100000 in
theorem cv_37 (cy : Nat → ClassId) (ad : Nat → Nat) (w : Nat → Option Nat) : pc_e cy ad (hs_148.1 37) (hs_148.2.1 37) w (.inr (4, [(0, 0), (0, 0), (2, 38), (2, 39), (2, 40), (2, 41)])) = pc_e cy ad (hs_148.1 37) (hs_148.2.1 37) w (.inr (4, [(0, 0), (0, 0), (3, 38), (3, 39), (3, 40), (3, 41)])) := by
  show Sum.inr (_, List.mapIdx _ _) = Sum.inr (_, List.mapIdx _ _)
  simp only [List.mapIdx_cons, List.mapIdx_nil, Function.comp_def]
  simp only [kd_23 ad (hs_148.2.1 37) 38 fl_37_2, kd_23 ad (hs_148.2.1 37) 39 fl_37_3, kd_23 ad (hs_148.2.1 37) 40 fl_37_4, kd_23 ad (hs_148.2.1 37) 41 fl_37_5]
set_option maxRecDepth 100000 in
theorem cv_43 (cy : Nat → ClassId) (ad : Nat → Nat) (w : Nat → Option Nat) : pc_e cy ad (hs_148.1 43) (hs_148.2.1 43) w (.inr (12, [(0, 0), (0, 0), (0, 0), (0, 0), (2, 44), (2, 45), (2, 46), (2, 47), (2, 48), (0, 0), (0, 0), (0, 0), (0, 0), (0, 0), (2, 49), (2, 50), (2, 51), (2, 52), (2, 53), (0, 0), (2, 54), (2, 55), (2, 56), (0, 0), (2, 57), (2, 58), (2, 59), (2, 60), (2, 61), (1, 0), (2, 62), (2, 63), (2, 64), (0, 0), (0, 0), (0, 0), (0, 0), (0, 0), (2, 65), (2, 66), (2, 67), (2, 68), (2, 69), (2, 70), (0, 0)])) = pc_e cy ad (hs_148.1 43) (hs_148.2.1 43) w (.inr (12, [(0, 0), (0, 0), (0, 0), (0, 0), (3, 44), (3, 45), (3, 46), (3, 47), (3, 48), (0, 0), (0, 0), (0, 0), (0, 0), (0, 0), (3, 49), (3, 50), (3, 51), (3, 52), (3, 53), (0, 0), (3, 54), (3, 55), (3, 56), (0, 0), (3, 57), (3, 58), (3, 59), (3, 60), (3, 61), (1, 0), (3, 62), (3, 63), (3, 64), (0, 0), (0, 0), (0, 0), (0, 0), (0, 0), (3, 65), (3, 66), (3, 67), (3, 68), (3, 69), (3, 70), (0, 0)])) := by
  show Sum.inr (_, List.mapIdx _ _) = Sum.inr (_, List.mapIdx _ _)
  simp only [List.mapIdx_cons, List.mapIdx_nil, Function.comp_def]
  simp only [kd_23 ad (hs_148.2.1 43) 44 fl_43_4, kd_23 ad (hs_148.2.1 43) 45 fl_43_5, kd_23 ad (hs_148.2.1 43) 46 fl_43_6, kd_23 ad (hs_148.2.1 43) 47 fl_43_7, kd_23 ad (hs_148.2.1 43) 48 fl_43_8, kd_23 ad (hs_148.2.1 43) 49 fl_43_14, kd_23 ad (hs_148.2.1 43) 50 fl_43_15, kd_23 ad (hs_148.2.1 43) 51 fl_43_16, kd_23 ad (hs_148.2.1 43) 52 fl_43_17, kd_23 ad (hs_148.2.1 43) 53 fl_43_18, kd_23 ad (hs_148.2.1 43) 54 fl_43_20, kd_23 ad (hs_148.2.1 43) 55 fl_43_21, kd_23 ad (hs_148.2.1 43) 56 fl_43_22, kd_23 ad (hs_148.2.1 43) 57 fl_43_24, kd_23 ad (hs_148.2.1 43) 58 fl_43_25, kd_23 ad (hs_148.2.1 43) 59 fl_43_26, kd_23 ad (hs_148.2.1 43) 60 fl_43_27, kd_23 ad (hs_148.2.1 43) 61 fl_43_28, kd_23 ad (hs_148.2.1 43) 62 fl_43_30, kd_23 ad (hs_148.2.1 43) 63 fl_43_31, kd_23 ad (hs_148.2.1 43) 64 fl_43_32, kd_23 ad (hs_148.2.1 43) 65 fl_43_38, kd_23 ad (hs_148.2.1 43) 66 fl_43_39, kd_23 ad (hs_148.2.1 43) 67 fl_43_40, kd_23 ad (hs_148.2.1 43) 68 fl_43_41, kd_23 ad (hs_148.2.1 43) 69 fl_43_42, kd_23 ad (hs_148.2.1 43) 70 fl_43_43]
set_option maxRecDepth 100000 in
theorem cv_all (cy : Nat → ClassId) (ad : Nat → Nat) : wl_s cy ad [] hs_148 = wl_s cy ad l0_B hF_0 := by
  apply List.ext_getElem?
  intro k
  by_cases hk : k < 71
  · match k, hk with
    | 0, _ => rw [wl_get (y := .inr (11, [(2, 1), (2, 5), (2, 10), (2, 17), (2, 22), (0, 0), (2, 23), (2, 27), (2, 34), (2, 37), (2, 42), (0, 0)])) (by rw [List.nil_append, hd_148]; rfl), wl_get (h := hF_0) (y := .inr (11, [(3, 1), (3, 5), (3, 10), (3, 17), (3, 22), (0, 0), (3, 23), (3, 27), (3, 34), (3, 37), (3, 42), (0, 0)])) rfl]; exact congrArg (fun e => some (ad 0, e)) (cv_0 cy ad _)
    | 1, _ => rw [wl_get (y := .inr (8, [(2, 2), (2, 3), (2, 4)])) (by rw [List.nil_append, hd_148]; rfl), wl_get (h := hF_0) (y := .inr (8, [(3, 2), (3, 3), (3, 4)])) rfl]; exact congrArg (fun e => some (ad 1, e)) (cv_1 cy ad _)
    | 2, _ => rw [wl_get (y := .inl (0, 4)) (by rw [List.nil_append, hd_148]; rfl), wl_get (h := hF_0) (y := .inl (0, 4)) rfl]; rfl
    | 3, _ => rw [wl_get (y := .inl (0, 4)) (by rw [List.nil_append, hd_148]; rfl), wl_get (h := hF_0) (y := .inl (0, 4)) rfl]; rfl
    | 4, _ => rw [wl_get (y := .inl (0, 400)) (by rw [List.nil_append, hd_148]; rfl), wl_get (h := hF_0) (y := .inl (0, 400)) rfl]; rfl
    | 5, _ => rw [wl_get (y := .inr (10, [(2, 6), (2, 7), (2, 8), (2, 9), (0, 0), (0, 0), (0, 0), (2, 4), (0, 0), (0, 0), (0, 0)])) (by rw [List.nil_append, hd_148]; rfl), wl_get (h := hF_0) (y := .inr (10, [(3, 6), (3, 7), (3, 8), (3, 9), (0, 0), (0, 0), (0, 0), (2, 4), (0, 0), (0, 0), (0, 0)])) rfl]; exact congrArg (fun e => some (ad 5, e)) (cv_5 cy ad _)
    | 6, _ => rw [wl_get (y := .inl (0, 14)) (by rw [List.nil_append, hd_148]; rfl), wl_get (h := hF_0) (y := .inl (0, 14)) rfl]; rfl
    | 7, _ => rw [wl_get (y := .inl (0, 14)) (by rw [List.nil_append, hd_148]; rfl), wl_get (h := hF_0) (y := .inl (0, 14)) rfl]; rfl
    | 8, _ => rw [wl_get (y := .inl (0, 14)) (by rw [List.nil_append, hd_148]; rfl), wl_get (h := hF_0) (y := .inl (0, 14)) rfl]; rfl
    | 9, _ => rw [wl_get (y := .inl (0, 14)) (by rw [List.nil_append, hd_148]; rfl), wl_get (h := hF_0) (y := .inl (0, 14)) rfl]; rfl
    | 10, _ => rw [wl_get (y := .inr (3, [(0, 0), (0, 0), (0, 0), (2, 11), (2, 12), (2, 13), (2, 14), (2, 15), (2, 16)])) (by rw [List.nil_append, hd_148]; rfl), wl_get (h := hF_0) (y := .inr (3, [(0, 0), (0, 0), (0, 0), (3, 11), (3, 12), (3, 13), (3, 14), (3, 15), (3, 16)])) rfl]; exact congrArg (fun e => some (ad 10, e)) (cv_10 cy ad _)
    | 11, _ => rw [wl_get (y := .inl (0, 14)) (by rw [List.nil_append, hd_148]; rfl), wl_get (h := hF_0) (y := .inl (0, 14)) rfl]; rfl
    | 12, _ => rw [wl_get (y := .inl (0, 14)) (by rw [List.nil_append, hd_148]; rfl), wl_get (h := hF_0) (y := .inl (0, 14)) rfl]; rfl
    | 13, _ => rw [wl_get (y := .inl (0, 14)) (by rw [List.nil_append, hd_148]; rfl), wl_get (h := hF_0) (y := .inl (0, 14)) rfl]; rfl
    | 14, _ => rw [wl_get (y := .inl (0, 14)) (by rw [List.nil_append, hd_148]; rfl), wl_get (h := hF_0) (y := .inl (0, 14)) rfl]; rfl
    | 15, _ => rw [wl_get (y := .inl (1, 14)) (by rw [List.nil_append, hd_148]; rfl), wl_get (h := hF_0) (y := .inl (1, 14)) rfl]; rfl
    | 16, _ => rw [wl_get (y := .inl (0, 64)) (by rw [List.nil_append, hd_148]; rfl), wl_get (h := hF_0) (y := .inl (0, 64)) rfl]; rfl
    | 17, _ => rw [wl_get (y := .inr (6, [(0, 0), (2, 18), (2, 19), (2, 20), (2, 21)])) (by rw [List.nil_append, hd_148]; rfl), wl_get (h := hF_0) (y := .inr (6, [(0, 0), (3, 18), (3, 19), (3, 20), (3, 21)])) rfl]; exact congrArg (fun e => some (ad 17, e)) (cv_17 cy ad _)
    | 18, _ => rw [wl_get (y := .inl (0, 8)) (by rw [List.nil_append, hd_148]; rfl), wl_get (h := hF_0) (y := .inl (0, 8)) rfl]; rfl
    | 19, _ => rw [wl_get (y := .inl (0, 8)) (by rw [List.nil_append, hd_148]; rfl), wl_get (h := hF_0) (y := .inl (0, 8)) rfl]; rfl
    | 20, _ => rw [wl_get (y := .inl (0, 8)) (by rw [List.nil_append, hd_148]; rfl), wl_get (h := hF_0) (y := .inl (0, 8)) rfl]; rfl
    | 21, _ => rw [wl_get (y := .inl (0, 8)) (by rw [List.nil_append, hd_148]; rfl), wl_get (h := hF_0) (y := .inl (0, 8)) rfl]; rfl
    | 22, _ => rw [wl_get (y := .inl (3, 6)) (by rw [List.nil_append, hd_148]; rfl), wl_get (h := hF_0) (y := .inl (3, 6)) rfl]; rfl
    | 23, _ => rw [wl_get (y := .inr (0, [(2, 24), (2, 25), (2, 26)])) (by rw [List.nil_append, hd_148]; rfl), wl_get (h := hF_0) (y := .inr (0, [(3, 24), (3, 25), (3, 26)])) rfl]; exact congrArg (fun e => some (ad 23, e)) (cv_23 cy ad _)
    | 24, _ => rw [wl_get (y := .inl (0, 64)) (by rw [List.nil_append, hd_148]; rfl), wl_get (h := hF_0) (y := .inl (0, 64)) rfl]; rfl
    | 25, _ => rw [wl_get (y := .inl (0, 8)) (by rw [List.nil_append, hd_148]; rfl), wl_get (h := hF_0) (y := .inl (0, 8)) rfl]; rfl
    | 26, _ => rw [wl_get (y := .inl (0, 2048)) (by rw [List.nil_append, hd_148]; rfl), wl_get (h := hF_0) (y := .inl (0, 2048)) rfl]; rfl
    | 27, _ => rw [wl_get (y := .inr (5, [(2, 28), (2, 29), (2, 30), (2, 31), (2, 32), (2, 33), (0, 0), (0, 0), (0, 0), (0, 0)])) (by rw [List.nil_append, hd_148]; rfl), wl_get (h := hF_0) (y := .inr (5, [(3, 28), (3, 29), (3, 30), (3, 31), (3, 32), (3, 33), (0, 0), (0, 0), (0, 0), (0, 0)])) rfl]; exact congrArg (fun e => some (ad 27, e)) (cv_27 cy ad _)
    | 28, _ => rw [wl_get (y := .inl (0, 256)) (by rw [List.nil_append, hd_148]; rfl), wl_get (h := hF_0) (y := .inl (0, 256)) rfl]; rfl
    | 29, _ => rw [wl_get (y := .inl (0, 8)) (by rw [List.nil_append, hd_148]; rfl), wl_get (h := hF_0) (y := .inl (0, 8)) rfl]; rfl
    | 30, _ => rw [wl_get (y := .inl (0, 8)) (by rw [List.nil_append, hd_148]; rfl), wl_get (h := hF_0) (y := .inl (0, 8)) rfl]; rfl
    | 31, _ => rw [wl_get (y := .inl (0, 3)) (by rw [List.nil_append, hd_148]; rfl), wl_get (h := hF_0) (y := .inl (0, 3)) rfl]; rfl
    | 32, _ => rw [wl_get (y := .inl (0, 3)) (by rw [List.nil_append, hd_148]; rfl), wl_get (h := hF_0) (y := .inl (0, 3)) rfl]; rfl
    | 33, _ => rw [wl_get (y := .inl (0, 6)) (by rw [List.nil_append, hd_148]; rfl), wl_get (h := hF_0) (y := .inl (0, 6)) rfl]; rfl
    | 34, _ => rw [wl_get (y := .inr (2, [(2, 35), (2, 36), (0, 0)])) (by rw [List.nil_append, hd_148]; rfl), wl_get (h := hF_0) (y := .inr (2, [(3, 35), (3, 36), (0, 0)])) rfl]; exact congrArg (fun e => some (ad 34, e)) (cv_34 cy ad _)
    | 35, _ => rw [wl_get (y := .inl (0, 4)) (by rw [List.nil_append, hd_148]; rfl), wl_get (h := hF_0) (y := .inl (0, 4)) rfl]; rfl
    | 36, _ => rw [wl_get (y := .inl (0, 4)) (by rw [List.nil_append, hd_148]; rfl), wl_get (h := hF_0) (y := .inl (0, 4)) rfl]; rfl
    | 37, _ => rw [wl_get (y := .inr (4, [(0, 0), (0, 0), (2, 38), (2, 39), (2, 40), (2, 41)])) (by rw [List.nil_append, hd_148]; rfl), wl_get (h := hF_0) (y := .inr (4, [(0, 0), (0, 0), (3, 38), (3, 39), (3, 40), (3, 41)])) rfl]; exact congrArg (fun e => some (ad 37, e)) (cv_37 cy ad _)
    | 38, _ => rw [wl_get (y := .inl (0, 12)) (by rw [List.nil_append, hd_148]; rfl), wl_get (h := hF_0) (y := .inl (0, 12)) rfl]; rfl
    | 39, _ => rw [wl_get (y := .inl (0, 12)) (by rw [List.nil_append, hd_148]; rfl), wl_get (h := hF_0) (y := .inl (0, 12)) rfl]; rfl
    | 40, _ => rw [wl_get (y := .inl (0, 256)) (by rw [List.nil_append, hd_148]; rfl), wl_get (h := hF_0) (y := .inl (0, 256)) rfl]; rfl
    | 41, _ => rw [wl_get (y := .inl (0, 8)) (by rw [List.nil_append, hd_148]; rfl), wl_get (h := hF_0) (y := .inl (0, 8)) rfl]; rfl
    | 42, _ => rw [wl_get (y := .inl (0, 1)) (by rw [List.nil_append, hd_148]; rfl), wl_get (h := hF_0) (y := .inl (0, 1)) rfl]; rfl
    | 43, _ => rw [wl_get (y := .inr (12, [(0, 0), (0, 0), (0, 0), (0, 0), (2, 44), (2, 45), (2, 46), (2, 47), (2, 48), (0, 0), (0, 0), (0, 0), (0, 0), (0, 0), (2, 49), (2, 50), (2, 51), (2, 52), (2, 53), (0, 0), (2, 54), (2, 55), (2, 56), (0, 0), (2, 57), (2, 58), (2, 59), (2, 60), (2, 61), (1, 0), (2, 62), (2, 63), (2, 64), (0, 0), (0, 0), (0, 0), (0, 0), (0, 0), (2, 65), (2, 66), (2, 67), (2, 68), (2, 69), (2, 70), (0, 0)])) (by rw [List.nil_append, hd_148]; rfl), wl_get (h := hF_0) (y := .inr (12, [(0, 0), (0, 0), (0, 0), (0, 0), (3, 44), (3, 45), (3, 46), (3, 47), (3, 48), (0, 0), (0, 0), (0, 0), (0, 0), (0, 0), (3, 49), (3, 50), (3, 51), (3, 52), (3, 53), (0, 0), (3, 54), (3, 55), (3, 56), (0, 0), (3, 57), (3, 58), (3, 59), (3, 60), (3, 61), (1, 0), (3, 62), (3, 63), (3, 64), (0, 0), (0, 0), (0, 0), (0, 0), (0, 0), (3, 65), (3, 66), (3, 67), (3, 68), (3, 69), (3, 70), (0, 0)])) rfl]; exact congrArg (fun e => some (ad 43, e)) (cv_43 cy ad _)
    | 44, _ => rw [wl_get (y := .inl (0, 14)) (by rw [List.nil_append, hd_148]; rfl), wl_get (h := hF_0) (y := .inl (0, 14)) rfl]; rfl
    | 45, _ => rw [wl_get (y := .inl (0, 14)) (by rw [List.nil_append, hd_148]; rfl), wl_get (h := hF_0) (y := .inl (0, 14)) rfl]; rfl
    | 46, _ => rw [wl_get (y := .inl (0, 14)) (by rw [List.nil_append, hd_148]; rfl), wl_get (h := hF_0) (y := .inl (0, 14)) rfl]; rfl
    | 47, _ => rw [wl_get (y := .inl (0, 14)) (by rw [List.nil_append, hd_148]; rfl), wl_get (h := hF_0) (y := .inl (0, 14)) rfl]; rfl
    | 48, _ => rw [wl_get (y := .inl (1, 14)) (by rw [List.nil_append, hd_148]; rfl), wl_get (h := hF_0) (y := .inl (1, 14)) rfl]; rfl
    | 49, _ => rw [wl_get (y := .inl (0, 14)) (by rw [List.nil_append, hd_148]; rfl), wl_get (h := hF_0) (y := .inl (0, 14)) rfl]; rfl
    | 50, _ => rw [wl_get (y := .inl (0, 14)) (by rw [List.nil_append, hd_148]; rfl), wl_get (h := hF_0) (y := .inl (0, 14)) rfl]; rfl
    | 51, _ => rw [wl_get (y := .inl (0, 14)) (by rw [List.nil_append, hd_148]; rfl), wl_get (h := hF_0) (y := .inl (0, 14)) rfl]; rfl
    | 52, _ => rw [wl_get (y := .inl (0, 14)) (by rw [List.nil_append, hd_148]; rfl), wl_get (h := hF_0) (y := .inl (0, 14)) rfl]; rfl
    | 53, _ => rw [wl_get (y := .inl (0, 64)) (by rw [List.nil_append, hd_148]; rfl), wl_get (h := hF_0) (y := .inl (0, 64)) rfl]; rfl
    | 54, _ => rw [wl_get (y := .inl (0, 8)) (by rw [List.nil_append, hd_148]; rfl), wl_get (h := hF_0) (y := .inl (0, 8)) rfl]; rfl
    | 55, _ => rw [wl_get (y := .inl (0, 8)) (by rw [List.nil_append, hd_148]; rfl), wl_get (h := hF_0) (y := .inl (0, 8)) rfl]; rfl
    | 56, _ => rw [wl_get (y := .inl (0, 8)) (by rw [List.nil_append, hd_148]; rfl), wl_get (h := hF_0) (y := .inl (0, 8)) rfl]; rfl
    | 57, _ => rw [wl_get (y := .inl (1, 6)) (by rw [List.nil_append, hd_148]; rfl), wl_get (h := hF_0) (y := .inl (1, 6)) rfl]; rfl
    | 58, _ => rw [wl_get (y := .inl (0, 6)) (by rw [List.nil_append, hd_148]; rfl), wl_get (h := hF_0) (y := .inl (0, 6)) rfl]; rfl
    | 59, _ => rw [wl_get (y := .inl (0, 6)) (by rw [List.nil_append, hd_148]; rfl), wl_get (h := hF_0) (y := .inl (0, 6)) rfl]; rfl
    | 60, _ => rw [wl_get (y := .inl (0, 6)) (by rw [List.nil_append, hd_148]; rfl), wl_get (h := hF_0) (y := .inl (0, 6)) rfl]; rfl
    | 61, _ => rw [wl_get (y := .inl (0, 36)) (by rw [List.nil_append, hd_148]; rfl), wl_get (h := hF_0) (y := .inl (0, 36)) rfl]; rfl
    | 62, _ => rw [wl_get (y := .inl (2, 7)) (by rw [List.nil_append, hd_148]; rfl), wl_get (h := hF_0) (y := .inl (2, 7)) rfl]; rfl
    | 63, _ => rw [wl_get (y := .inl (0, 2304)) (by rw [List.nil_append, hd_148]; rfl), wl_get (h := hF_0) (y := .inl (0, 2304)) rfl]; rfl
    | 64, _ => rw [wl_get (y := .inl (0, 3)) (by rw [List.nil_append, hd_148]; rfl), wl_get (h := hF_0) (y := .inl (0, 3)) rfl]; rfl
    | 65, _ => rw [wl_get (y := .inl (0, 12)) (by rw [List.nil_append, hd_148]; rfl), wl_get (h := hF_0) (y := .inl (0, 12)) rfl]; rfl
    | 66, _ => rw [wl_get (y := .inl (0, 12)) (by rw [List.nil_append, hd_148]; rfl), wl_get (h := hF_0) (y := .inl (0, 12)) rfl]; rfl
    | 67, _ => rw [wl_get (y := .inl (0, 4)) (by rw [List.nil_append, hd_148]; rfl), wl_get (h := hF_0) (y := .inl (0, 4)) rfl]; rfl
    | 68, _ => rw [wl_get (y := .inl (0, 4)) (by rw [List.nil_append, hd_148]; rfl), wl_get (h := hF_0) (y := .inl (0, 4)) rfl]; rfl
    | 69, _ => rw [wl_get (y := .inl (0, 400)) (by rw [List.nil_append, hd_148]; rfl), wl_get (h := hF_0) (y := .inl (0, 400)) rfl]; rfl
    | 70, _ => rw [wl_get (y := .inl (0, 100)) (by rw [List.nil_append, hd_148]; rfl), wl_get (h := hF_0) (y := .inl (0, 100)) rfl]; rfl
    | k + 71, hk => exact absurd hk (by omega)
  · rw [List.getElem?_eq_none_iff.mpr (by rw [wl_len, List.nil_append, hd_148]; exact Nat.not_lt.mp hk), List.getElem?_eq_none_iff.mpr (by rw [wl_len]; exact Nat.not_lt.mp hk)]
theorem go_cv {C : GC} {ce sl pc : Nat} {L : List (Nat × Value)} {st : List Value} (kk : Go l0_B C ce sl pc L st hF_0) : Go [] C ce sl pc L st hs_148 := by
  obtain ⟨p, l, e, R0, s, m, args, below, meth, c, D, cy, A, nL0, AR, Q⟩ := C
  intro ad H locs ls ha hW hS hl
  refine kk ad H locs ls ha ?_ hS hl
  unfold wd_P at hW ⊢
  rw [← cv_all]
  exact hW
set_option maxHeartbeats 4000000 in
set_option maxRecDepth 100000 in
/-- THE LAW, from its entry, out of what is to be shown of the pure programs -/
theorem whole_open (HP : ∀ (Ln : Nat) (xs : Nat → Int32), Ln ≤ 3584 → ∃ I : Int32 → PH → Prop, I 0 hF_0 ∧ (∀ x h, I x h → wf_H l0_B h) ∧ (∀ x h t, I x h → lb_law Ln xs x h = some (.inl t) → I t.1 t.2) ∧ ∃ y, lp_f (fun s => lb_law Ln xs s.1 s.2) fu_l (0, hF_0) = some y) {p : Program} {e : Env} {s : State} {m : MethodId} {below : List Frame} {meth : Method} {c : Code} (l : Launch) {b L : Nat} {xs : Nat → Int32} (hL : L ≤ 3584) (C0 : lw_At p s m meth c b L xs) : W p l e room_1 s m #[Value.ref b] below meth c s.heap [] 0 0 (lw_Z below #[Value.ref b] s) (entryFrame m ([Value.ref b] : List Value).toArray 4) := by
  obtain ⟨hx, hb, hr, hml, hown, hts, hX, hbl, hlocks, hgv⟩ := id C0
  obtain ⟨c0, i0, hK0⟩ := u_known (C := RX0) (T := TX0) (N := 3) (n := 3) hts li_X0 (hts (.instantiable RX0 3) (List.mem_of_getElem? (i := 252) (by decide +kernel)))
  obtain ⟨c1, i1, hK1⟩ := u_known (C := RX1) (T := TX1) (N := 3) (n := 3) hts li_X1 (hts (.instantiable RX1 3) (List.mem_of_getElem? (i := 575) (by decide +kernel)))
  obtain ⟨c2, i2, hK2⟩ := u_known (C := RX2) (T := TX2) (N := 3) (n := 3) hts li_X2 (hts (.instantiable RX2 3) (List.mem_of_getElem? (i := 307) (by decide +kernel)))
  obtain ⟨c3, i3, hK3⟩ := u_known (C := RX3) (T := TX3) (N := 9) (n := 9) hts li_X3 (hts (.instantiable RX3 9) (List.mem_of_getElem? (i := 167) (by decide +kernel)))
  obtain ⟨c4, i4, hK4⟩ := u_known (C := RX4) (T := TX4) (N := 6) (n := 6) hts li_X4 (hts (.instantiable RX4 6) (List.mem_of_getElem? (i := 324) (by decide +kernel)))
  obtain ⟨c5, i5, hK5⟩ := u_known (C := RX5) (T := TX5) (N := 10) (n := 10) hts li_X5 (hts (.instantiable RX5 10) (List.mem_of_getElem? (i := 268) (by decide +kernel)))
  obtain ⟨c6, i6, hK6⟩ := u_known (C := RX6) (T := TX6) (N := 5) (n := 5) hts li_X6 (hts (.instantiable RX6 5) (List.mem_of_getElem? (i := 213) (by decide +kernel)))
  obtain ⟨c7, i7, hK7⟩ := u_known (C := RX7) (T := TX7) (N := 3) (n := 3) hts li_X7 (hts (.instantiable RX7 3) (List.mem_of_getElem? (i := 595) (by decide +kernel)))
  obtain ⟨c8, i8, hK8⟩ := u_known (C := RX8) (T := TX8) (N := 3) (n := 3) hts li_X8 (hts (.instantiable RX8 3) (List.mem_of_getElem? (i := 101) (by decide +kernel)))
  obtain ⟨c9, i9, hK9⟩ := u_known (C := RX9) (T := TX9) (N := 3) (n := 3) hts li_X9 (hts (.instantiable RX9 3) (List.mem_of_getElem? (i := 605) (by decide +kernel)))
  obtain ⟨c10, i10, hK10⟩ := u_known (C := RX10) (T := TX10) (N := 11) (n := 11) hts li_X10 (hts (.instantiable RX10 11) (List.mem_of_getElem? (i := 120) (by decide +kernel)))
  obtain ⟨c11, i11, hK11⟩ := u_known (C := RX11) (T := TX11) (N := 12) (n := 12) hts li_X11 (hts (.instantiable RX11 12) (List.mem_of_getElem? (i := 93) (by decide +kernel)))
  obtain ⟨c12, i12, hK12⟩ := u_known (C := RX12) (T := TX12) (N := 45) (n := 45) hts li_X12 (hts (.instantiable RX12 45) (List.mem_of_getElem? (i := 1105) (by decide +kernel)))
  obtain ⟨dC, dI, hKc⟩ : ∃ (dC : Nat → ClassId) (dI : Nat → Nat → Nat), ∀ (k : Nat) (q : vw_C), vwCl[k]? = some q → u_Kn s q.1 q.2.1 q.2.2 (dC k) (dI k) := by
    refine ⟨fun k => match k with | 0 => c0 | 1 => c1 | 2 => c2 | 3 => c3 | 4 => c4 | 5 => c5 | 6 => c6 | 7 => c7 | 8 => c8 | 9 => c9 | 10 => c10 | 11 => c11 | _ => c12, fun k => match k with | 0 => i0 | 1 => i1 | 2 => i2 | 3 => i3 | 4 => i4 | 5 => i5 | 6 => i6 | 7 => i7 | 8 => i8 | 9 => i9 | 10 => i10 | 11 => i11 | _ => i12, ?_⟩
    intro k q hq
    match k, hq with
    | 0, hq => cases hq; exact hK0
    | 1, hq => cases hq; exact hK1
    | 2, hq => cases hq; exact hK2
    | 3, hq => cases hq; exact hK3
    | 4, hq => cases hq; exact hK4
    | 5, hq => cases hq; exact hK5
    | 6, hq => cases hq; exact hK6
    | 7, hq => cases hq; exact hK7
    | 8, hq => cases hq; exact hK8
    | 9, hq => cases hq; exact hK9
    | 10, hq => cases hq; exact hK10
    | 11, hq => cases hq; exact hK11
    | 12, hq => cases hq; exact hK12
    | k + 13, hq => exact absurd (List.getElem?_eq_some_iff.mp hq).1 (by simp)
  obtain ⟨y0, ky0, cm0, g0a, g0b, g0c⟩ := Cond.arrayClass_spec (hts (.arrayClass .int) (List.mem_of_getElem? (i := 118) (by decide +kernel)))
  obtain ⟨y1, ky1, cm1, g1a, g1b, g1c⟩ := Cond.arrayClass_spec (hts (.arrayClass .boolean) (List.mem_of_getElem? (i := 211) (by decide +kernel)))
  obtain ⟨y2, ky2, cm2, g2a, g2b, g2c⟩ := Cond.arrayClass_spec (hts (.arrayClass .long) (List.mem_of_getElem? (i := 1246) (by decide +kernel)))
  have hAO : va_AO "LampWays$Chain" s := va_AO.of (hts (.arrayOver (.object "LampWays$Chain")) (List.mem_of_getElem? (i := 250) (by decide +kernel)))
  obtain ⟨cm3, y3, ky3, g3d, -, g3b, g3c, g3a⟩ := Cond.arrayOver_spec hAO
  obtain ⟨cy, hcy⟩ : ∃ cy : Nat → ClassId, va_K (dC, dI) vwCl (ty_l cy) s := by
    refine ⟨fun k => match k with | 0 => y0 | 1 => y1 | 2 => y2 | _ => y3, hKc, ?_⟩
    intro k q hq
    match k, hq with
    | 0, hq => cases hq; exact ⟨fun n z => ⟨fun k h => (by cases h), ky0, g0b, cm0, g0c⟩, g0a⟩
    | 1, hq => cases hq; exact ⟨fun n z => ⟨fun k h => (by cases h), ky1, g1b, cm1, g1c⟩, g1a⟩
    | 2, hq => cases hq; exact ⟨fun n z => ⟨fun k h => (by cases h), ky2, g2b, cm2, g2c⟩, g2a⟩
    | 3, hq => cases hq; exact ⟨fun n z => ⟨fun k h => (by cases h), ky3, g3b, cm3, g3c⟩, ky3, cm3, g3b, g3c, g3d, g3a⟩
    | k + 4, hq => exact absurd (List.getElem?_eq_some_iff.mp hq).1 (by simp)
  have hs := flat_of_before _ hgv
  have hkz : kz_P (dC, dI) cy s := ⟨hcy, va_Nw.of rfl (hts (.castable "LampWays$Ring" "LampWays$Chain") (List.mem_of_getElem? (i := 1621) (by decide +kernel))), va_Nw.of rfl (hts (.castable "LampWays$Strong" "LampWays$Chain") (List.mem_of_getElem? (i := 1622) (by decide +kernel))), va_Nw.of rfl (hts (.castable "LampWays$Strong" "LampWays$Ring") (List.mem_of_getElem? (i := 1620) (by decide +kernel))), va_Nc.of (hs (Cond.not (.castable "LampWays$Chain" "LampWays$Ring")) (by decide +kernel)), va_Nc.of (hs (Cond.not (.castable "LampWays$Chain" "LampWays$Strong")) (by decide +kernel)), va_Nc.of (hs (Cond.not (.castable "LampWays$Ring" "LampWays$Strong")) (by decide +kernel)), hAO⟩
  obtain ⟨I, hI0, hIw, hIs, y9, hlp⟩ := HP L xs hL
  have hts2 : ∀ w ∈ wsL_law2, w.before #[Value.ref b] s = true := fun w hw => hts w (li_law w hw)
  let C : GC := (p, l, e, room_1, s, m, #[Value.ref b], below, meth, c, (dC, dI), cy, (fun q : Nat => s.heap.size ≤ q), 4, (fun ad => ad 1000000 = b), lw_Z below #[Value.ref b] s)
  have hC : Cx C cL_law 4 wsL_law2 RL (some .boolean) room_1 := ⟨hx, hb, hml, rfl, rfl, hown, hts2, hkz, hr, hlocks, fun q h => h⟩
  have hAR : ∀ n, cx_AR C n := fun n ad ad2 h1 h2 => (h2 1000000 (Or.inr (Nat.le_refl _))).trans h1
  have hXs : cx_S C L xs := ⟨b, fun ad h => h, hX, hbl, Nat.not_le.mpr hbl⟩
  have hk : ∀ (ce sl : Nat) (L : List (Nat × Value)) (h : PH), ce ≤ 600000 → sl ≤ 7302250 → Go l0_B C ce sl 1682 L [] h := by
    intro ce sl L2 h h1 h2
    refine go_iconst hC dL_law_1682 k1_1 ?_
    intro ad H locs ls ha hW hS hl
    refine va_forget (fun q hq => hS.2.2 q hq) ?_
    refine W.widen (k := 600000) (n := 7302250) h1 h2 ?_
    exact lw_ret hx hb hr hlocks dL_law_1683
  have hgo : Go [] C 0 0 0 [(0, .ref 1000000)] [] hs_0 := by
    refine go_new hC (ci := 11) (ks := [(2, 1), (2, 5), (2, 10), (2, 17), (2, 22), (0, 0), (2, 23), (2, 27), (2, 34), (2, 37), (2, 42), (0, 0)]) tyX11 rfl (fun _ hw => (List.mem_append_left _ (List.mem_append_left _ (List.mem_append_left _ (List.mem_append_left _ (List.mem_append_left _ (List.mem_append_left _ (List.mem_append_left _ (List.mem_append_left _ (List.mem_append_left _ (List.mem_append_left _ (List.mem_append_left _ (List.mem_append_left _ (List.mem_append_left _ (List.mem_append_left _ (List.mem_append_right _ hw)))))))))))))))) tyX11_ok (List.mem_append_left _ (List.mem_append_left _ (List.mem_append_left _ (List.mem_append_left _ (List.mem_append_left _ (List.mem_append_left _ (List.mem_append_left _ (List.mem_append_left _ (List.mem_append_left _ (List.mem_append_left _ (List.mem_append_left _ (List.mem_append_left _ (List.mem_append_left _ (List.mem_append_left _ (List.mem_append_left _ (List.mem_append_left _ (List.mem_of_getElem? (i := 0) rfl))))))))))))))))) (List.mem_append_left _ (List.mem_append_left _ (List.mem_append_left _ (List.mem_append_left _ (List.mem_append_left _ (List.mem_append_left _ (List.mem_append_left _ (List.mem_append_left _ (List.mem_append_left _ (List.mem_append_left _ (List.mem_append_left _ (List.mem_append_left _ (List.mem_append_left _ (List.mem_append_left _ (List.mem_append_left _ (List.mem_append_left _ (List.mem_of_getElem? (i := 1) rfl))))))))))))))))) (List.mem_append_left _ (List.mem_append_left _ (List.mem_append_left _ (List.mem_append_left _ (List.mem_append_left _ (List.mem_append_left _ (List.mem_append_left _ (List.mem_append_left _ (List.mem_append_left _ (List.mem_append_left _ (List.mem_append_left _ (List.mem_append_left _ (List.mem_append_left _ (List.mem_append_left _ (List.mem_append_left _ (List.mem_append_left _ (List.mem_of_getElem? (i := 2) rfl))))))))))))))))) (fun j hj => match j, hj with | 0, _ => rfl | 1, _ => rfl | 2, _ => rfl | 3, _ => rfl | 4, _ => rfl | 5, _ => rfl | 6, _ => rfl | 7, _ => rfl | 8, _ => rfl | 9, _ => rfl | 10, _ => rfl | 11, _ => rfl | j + 12, hj => absurd hj (by omega)) (by decide) (Nat.le_of_ble_eq_true rfl) (Nat.le_of_ble_eq_true rfl) (by rw [hd_0]; rfl) wh_0 (Nat.le_of_ble_eq_true rfl) (hAR 0) (rl_ok (n := 0) rfl (Nat.le_refl _)) (rs_ok (n := 0) rfl (Nat.le_refl _)) dL_law_0 ?_
    refine go_toph (h1 := hs_1) rfl ?_
    refine go_dup hC dL_law_3 rfl ?_
    refine go_callI hC ci_X11_init (gi_l gL_law_X11_init) rfl 42 3387 ⟨rfl, rfl⟩ (List.mem_append_left _ (List.mem_append_left _ (List.mem_append_left _ (List.mem_append_left _ (List.mem_append_left _ (List.mem_append_left _ (List.mem_append_left _ (List.mem_append_left _ (List.mem_append_left _ (List.mem_append_left _ (List.mem_append_left _ (List.mem_append_left _ (List.mem_append_left _ (List.mem_append_left _ (List.mem_append_left _ (List.mem_append_left _ (List.mem_of_getElem? (i := 2) rfl))))))))))))))))) (List.mem_append_left _ (List.mem_append_left _ (List.mem_append_left _ (List.mem_append_left _ (List.mem_append_left _ (List.mem_append_left _ (List.mem_append_left _ (List.mem_append_left _ (List.mem_append_left _ (List.mem_append_left _ (List.mem_append_left _ (List.mem_append_left _ (List.mem_append_left _ (List.mem_append_left _ (List.mem_append_left _ (List.mem_append_left _ (List.mem_of_getElem? (i := 6) rfl))))))))))))))))) (List.mem_append_left _ (List.mem_append_left _ (List.mem_append_left _ (List.mem_append_left _ (List.mem_append_left _ (List.mem_append_left _ (List.mem_append_left _ (List.mem_append_left _ (List.mem_append_left _ (List.mem_append_left _ (List.mem_append_left _ (List.mem_append_left _ (List.mem_append_left _ (List.mem_append_left _ (List.mem_append_left _ (List.mem_append_left _ (List.mem_of_getElem? (i := 7) rfl))))))))))))))))) rfl 0 (by decide +kernel) ⟨Nat.le_of_ble_eq_true rfl, Nat.le_of_ble_eq_true rfl⟩ rfl rfl (Nat.le_of_ble_eq_true rfl) ⟨Nat.le_of_ble_eq_true rfl, Nat.le_of_ble_eq_true rfl⟩ (by rw [hd_1]; rfl) (hAR 1) (rl_ok (n := 1) rfl (Nat.le_refl _)) (rs_ok (n := 1) rfl (Nat.le_refl _)) dL_law_4 ?_
    refine go_astore_n hC dL_law_7 rfl (Nat.le_of_ble_eq_true rfl) rfl ?_
    refine go_new hC (ci := 12) (ks := [(0, 0), (0, 0), (0, 0), (0, 0), (2, 44), (2, 45), (2, 46), (2, 47), (2, 48), (0, 0), (0, 0), (0, 0), (0, 0), (0, 0), (2, 49), (2, 50), (2, 51), (2, 52), (2, 53), (0, 0), (2, 54), (2, 55), (2, 56), (0, 0), (2, 57), (2, 58), (2, 59), (2, 60), (2, 61), (1, 0), (2, 62), (2, 63), (2, 64), (0, 0), (0, 0), (0, 0), (0, 0), (0, 0), (2, 65), (2, 66), (2, 67), (2, 68), (2, 69), (2, 70), (0, 0)]) tyX12 rfl (fun _ hw => (List.mem_append_left _ (List.mem_append_left _ (List.mem_append_left _ (List.mem_append_left _ (List.mem_append_left _ (List.mem_append_left _ (List.mem_append_left _ (List.mem_append_left _ (List.mem_append_left _ (List.mem_append_left _ (List.mem_append_left _ (List.mem_append_left _ (List.mem_append_left _ (List.mem_append_right _ hw))))))))))))))) tyX12_ok (List.mem_append_left _ (List.mem_append_left _ (List.mem_append_left _ (List.mem_append_left _ (List.mem_append_left _ (List.mem_append_left _ (List.mem_append_left _ (List.mem_append_left _ (List.mem_append_left _ (List.mem_append_left _ (List.mem_append_left _ (List.mem_append_left _ (List.mem_append_left _ (List.mem_append_left _ (List.mem_append_left _ (List.mem_append_left _ (List.mem_of_getElem? (i := 3) rfl))))))))))))))))) (List.mem_append_left _ (List.mem_append_left _ (List.mem_append_left _ (List.mem_append_left _ (List.mem_append_left _ (List.mem_append_left _ (List.mem_append_left _ (List.mem_append_left _ (List.mem_append_left _ (List.mem_append_left _ (List.mem_append_left _ (List.mem_append_left _ (List.mem_append_left _ (List.mem_append_left _ (List.mem_append_left _ (List.mem_append_left _ (List.mem_of_getElem? (i := 4) rfl))))))))))))))))) (List.mem_append_left _ (List.mem_append_left _ (List.mem_append_left _ (List.mem_append_left _ (List.mem_append_left _ (List.mem_append_left _ (List.mem_append_left _ (List.mem_append_left _ (List.mem_append_left _ (List.mem_append_left _ (List.mem_append_left _ (List.mem_append_left _ (List.mem_append_left _ (List.mem_append_left _ (List.mem_append_left _ (List.mem_append_left _ (List.mem_of_getElem? (i := 5) rfl))))))))))))))))) (fun j hj => match j, hj with | 0, _ => rfl | 1, _ => rfl | 2, _ => rfl | 3, _ => rfl | 4, _ => rfl | 5, _ => rfl | 6, _ => rfl | 7, _ => rfl | 8, _ => rfl | 9, _ => rfl | 10, _ => rfl | 11, _ => rfl | 12, _ => rfl | 13, _ => rfl | 14, _ => rfl | 15, _ => rfl | 16, _ => rfl | 17, _ => rfl | 18, _ => rfl | 19, _ => rfl | 20, _ => rfl | 21, _ => rfl | 22, _ => rfl | 23, _ => rfl | 24, _ => rfl | 25, _ => rfl | 26, _ => rfl | 27, _ => rfl | 28, _ => rfl | 29, _ => rfl | 30, _ => rfl | 31, _ => rfl | 32, _ => rfl | 33, _ => rfl | 34, _ => rfl | 35, _ => rfl | 36, _ => rfl | 37, _ => rfl | 38, _ => rfl | 39, _ => rfl | 40, _ => rfl | 41, _ => rfl | 42, _ => rfl | 43, _ => rfl | 44, _ => rfl | j + 45, hj => absurd hj (by omega)) (by decide) (Nat.le_of_ble_eq_true rfl) (Nat.le_of_ble_eq_true rfl) (by rw [hd_89]; rfl) wh_89 (Nat.le_of_ble_eq_true rfl) (hAR 43) (rl_ok (n := 43) rfl (Nat.le_refl _)) (rs_ok (n := 43) rfl (Nat.le_refl _)) dL_law_8 ?_
    refine go_toph (h1 := hs_90) rfl ?_
    refine go_dup hC dL_law_11 rfl ?_
    refine go_callI hC ci_X12_init (gi_l gL_law_X12_init) rfl 27 3120 ⟨rfl, rfl⟩ (List.mem_append_left _ (List.mem_append_left _ (List.mem_append_left _ (List.mem_append_left _ (List.mem_append_left _ (List.mem_append_left _ (List.mem_append_left _ (List.mem_append_left _ (List.mem_append_left _ (List.mem_append_left _ (List.mem_append_left _ (List.mem_append_left _ (List.mem_append_left _ (List.mem_append_left _ (List.mem_append_left _ (List.mem_append_left _ (List.mem_of_getElem? (i := 5) rfl))))))))))))))))) (List.mem_append_left _ (List.mem_append_left _ (List.mem_append_left _ (List.mem_append_left _ (List.mem_append_left _ (List.mem_append_left _ (List.mem_append_left _ (List.mem_append_left _ (List.mem_append_left _ (List.mem_append_left _ (List.mem_append_left _ (List.mem_append_left _ (List.mem_append_left _ (List.mem_append_left _ (List.mem_append_left _ (List.mem_append_right _ (List.mem_append_right _ (List.mem_append_right _ (List.mem_append_right _ (List.mem_append_left _ (List.mem_of_getElem? (i := 17) rfl))))))))))))))))))))) (List.mem_append_left _ (List.mem_append_left _ (List.mem_append_left _ (List.mem_append_left _ (List.mem_append_left _ (List.mem_append_left _ (List.mem_append_left _ (List.mem_append_left _ (List.mem_append_left _ (List.mem_append_left _ (List.mem_append_left _ (List.mem_append_left _ (List.mem_append_left _ (List.mem_append_left _ (List.mem_append_left _ (List.mem_append_right _ (List.mem_append_right _ (List.mem_append_right _ (List.mem_append_right _ (List.mem_append_left _ (List.mem_of_getElem? (i := 18) rfl))))))))))))))))))))) rfl 0 (by decide +kernel) ⟨Nat.le_of_ble_eq_true rfl, Nat.le_of_ble_eq_true rfl⟩ rfl rfl (Nat.le_of_ble_eq_true rfl) ⟨Nat.le_of_ble_eq_true rfl, Nat.le_of_ble_eq_true rfl⟩ (by rw [hd_90]; rfl) (hAR 44) (rl_ok (n := 44) rfl (Nat.le_refl _)) (rs_ok (n := 44) rfl (Nat.le_refl _)) dL_law_12 ?_
    refine go_astore_n hC dL_law_15 rfl (Nat.le_of_ble_eq_true rfl) rfl ?_
    refine go_cv ?_
    refine go_iconst hC dL_law_16 k1_0 ?_
    refine go_istore_n hC dL_law_17 rfl (Nat.le_of_ble_eq_true rfl) rfl ?_
    refine go_sub [3, 2, 1, 0] (L' := [(0, .ref 1000000), (1, .ref 0), (2, .ref 43), (3, .int 0)]) rfl ?_
    exact law_loop hC hXs (fun n _ => hAR n) I hIw hIs hk fu_l _ _ 0 hF_0 y9 hlp hI0 (Nat.le_of_ble_eq_true rfl) (Nat.le_of_ble_eq_true rfl)
  have hl := lv_entry ([.ref b]) (n := 4) (Nat.le_of_ble_eq_true rfl)
  rw [lg_entry_eq]
  refine hgo (fun k => b) s.heap [] _ rfl ⟨fun k q h => ?_, ⟨fun i j p q h => ?_, fun k q h => ?_⟩⟩ va_S.rf hl
  · simp [wl_s, hs_0] at h
  · simp [wl_s, hs_0] at h
  · simp [wl_s, hs_0] at h
