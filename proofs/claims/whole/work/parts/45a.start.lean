/-! THE CLAIM OUT OF ONE WALK OF THE LAW'S BODY. Your part is whole_start (and what it stands on); all else here is the same for every law, but numbers. -/
def R_law : String := "LampWaysLaw"
def lw_P (b : Addr) (xs : List Int32) (args : Array Value) (s : State) : Prop := args = #[.ref b] ∧ s.IntsAt b xs ∧ xs.length ≤ 3584 ∧ (Jvm.Cond.and given_1 narrow_1).before args s = true
def lw_Q (_ : Array Value) (s : State) (o : Outcome) (t : State) : Prop := o = .returned (some (.int 1)) ∧ Framed s o t [] 600000 7302250
def lw_Z (below : List Frame) (a : Array Value) (s : State) : State → Prop := fun t => ∃ o, t.status = .running ∧ Ended t below o ∧ lw_Q a s o t
/-- the law's own end, with 1 on the stack, nothing written that was there before, its room as the claim has it -/
theorem lw_ret {p : Program} {l : Launch} {e : Env} {s : State} {m : MethodId} {below : List Frame} {meth : Method} {c : Code} {b : Nat} (hx : p.tables.exec = Jvm.exec) (hb : c.code = code) (hr : meth.sig.returnType = ret) (hlocks : meth.locks = false) {pc : Nat} {H : Heap} {ls : Array Slot} (hdg : decode code pc = .ok (.ireturn, 1)) : W p l e room_1 s m #[Value.ref b] below meth c H [] 600000 7302250 (lw_Z below #[Value.ref b] s) (F0 m pc ls [.int 1]) := by
  intro T hT X
  obtain ⟨fs, hret, hrun, hended, hW, hframe⟩ := X.leave (v := some (.int 1)) (hlocks := hlocks) (fun h => by rw [hr] at h; cases h)
  have hmeth' : T.vm.method? m = some meth := X.method'
  refine ⟨T.setFrames fs, ?_, .returned (some (.int 1)), hrun, hended, rfl, ⟨_, rfl⟩, hW, hframe⟩
  jvm_step X.here [X.here.top, hx, hb, hdg, hmeth', hr, ret, narrow_b1]
  (try refine ⟨rfl, ?_⟩); (try refine ⟨rfl, ?_⟩)
  first | (intro acts; rw [hret _ acts rfl rfl rfl]) | rw [hret _ _ rfl rfl rfl]
  exact Steps.refl _
/-- what holds at the law's entry: the machine, the code, the tables' words (any of lw_tbl by 'hts w (by decide +kernel)'), the script of L ints xs at the cell b, what the Statement gives of the start (any of its parts by flat_of_before) -/
def lw_At (p : Program) (s : State) (m : MethodId) (meth : Method) (c : Code) (b L : Nat) (xs : Nat → Int32) : Prop :=
  p.tables.exec = Jvm.exec ∧ c.code = code ∧ meth.sig.returnType = ret ∧ c.maxLocals = 4 ∧ s.vm.findClass R_law = some m.cls ∧ (∀ w ∈ lw_tbl, w.before #[Value.ref b] s = true) ∧ va_X b L xs s s.heap ∧ b < s.heap.size ∧ meth.locks = false ∧ (Jvm.Cond.and given_1 narrow_1).before #[Value.ref b] s = true
/-- the heap behind the constructors -/
def hF_0 : PH := (hs_148.1, hs_148.2.1, hs_148.2.2.1, [])
theorem kd_23 (ad : Nat → Nat) {i : Nat → Int32} (j : Nat → Int64) {k : Nat} (q : Nat) (h : ¬ i k = 0) : pf_d ad i j k (2, q) = pf_d ad i j k (3, q) := by rw [pf_2s _ _ _ h, pf_3]
/-- layouts alike, but that a flag stands for what is always there -/
def kz_b (i : Nat → Int32) : Nat → List (Nat × Nat) → List (Nat × Nat) → Bool
  | _, [], [] => true
  | n, a :: as, b :: bs => (decide (a = b) || (decide (a.1 = 2) && decide (b.1 = 3) && decide (a.2 = b.2) && decide (¬ i n = 0))) && kz_b i (n + 1) as bs
  | _, [], _ :: _ => false
  | _, _ :: _, [] => false
theorem kz_m {ad : Nat → Nat} {i : Nat → Int32} {j : Nat → Int64} : ∀ (as bs : List (Nat × Nat)) (n : Nat), kz_b i n as bs = true → as.mapIdx (fun m => pf_d ad i j (n + m)) = bs.mapIdx (fun m => pf_d ad i j (n + m))
  | [], [], _, _ => rfl
  | [], _ :: _, _, h => by cases h
  | _ :: _, [], _, h => by cases h
  | a :: as, b :: bs, n, h => by
    have h1 := (Bool.and_eq_true _ _).mp h
    have ih := kz_m (ad := ad) (j := j) as bs (n + 1) h1.2
    have e : (fun m => pf_d ad i j (n + (m + 1))) = fun m => pf_d ad i j (n + 1 + m) := by
      funext m
      rw [show n + (m + 1) = n + 1 + m by omega]
    have hd : pf_d ad i j (n + 0) a = pf_d ad i j (n + 0) b := by
      rw [Nat.add_zero]
      rcases (Bool.or_eq_true _ _).mp h1.1 with q | q
      · rw [of_decide_eq_true q]
      · have q1 := (Bool.and_eq_true _ _).mp q
        have q2 := (Bool.and_eq_true _ _).mp q1.1
        have q3 := (Bool.and_eq_true _ _).mp q2.1
        obtain ⟨a1, a2⟩ := a
        obtain ⟨b1, b2⟩ := b
        obtain rfl : a1 = 2 := of_decide_eq_true q3.1
        obtain rfl : b1 = 3 := of_decide_eq_true q3.2
        obtain rfl : a2 = b2 := of_decide_eq_true q2.2
        exact kd_23 ad j a2 (of_decide_eq_true q1.2)
    rw [List.mapIdx_cons, List.mapIdx_cons, hd]
    show _ :: List.mapIdx (fun m => pf_d ad i j (n + (m + 1))) as = _ :: List.mapIdx (fun m => pf_d ad i j (n + (m + 1))) bs
    rw [e, ih]
def ly_b (i : Nat → Int32) (y1 y2 : Ly) : Bool := match y1, y2 with
  | .inl a, .inl b => decide (a = b)
  | .inr a, .inr b => decide (a.1 = b.1) && kz_b i 0 a.2 b.2
  | .inl _, .inr _ => false
  | .inr _, .inl _ => false
theorem ly_m {cy : Nat → ClassId} {ad : Nat → Nat} {i : Nat → Int32} {j : Nat → Int64} {w : Nat → Option Nat} : ∀ {y1 y2 : Ly}, ly_b i y1 y2 = true → pc_e cy ad i j w y1 = pc_e cy ad i j w y2
  | .inl a, .inl b, h => by
    obtain rfl : a = b := of_decide_eq_true h
    rfl
  | .inr a, .inr b, h => by
    have h1 := (Bool.and_eq_true _ _).mp h
    have e := kz_m (ad := ad) (j := j) a.2 b.2 0 h1.2
    have z : (fun m => pf_d ad i j (0 + m)) = pf_d ad i j := by
      funext m
      rw [Nat.zero_add]
    rw [z] at e
    show Sum.inr (a.1, a.2.mapIdx (pf_d ad i j)) = Sum.inr (b.1, b.2.mapIdx (pf_d ad i j))
    rw [e, of_decide_eq_true h1.1]
  | .inl _, .inr _, h => by cases h
  | .inr _, .inl _, h => by cases h
def bl_b (i : Nat → Nat → Int32) : Nat → List Ly → List Ly → Bool
  | _, [], [] => true
  | n, a :: as, b :: bs => ly_b (i n) a b && bl_b i (n + 1) as bs
  | _, [], _ :: _ => false
  | _, _ :: _, [] => false
theorem bl_m {cy : Nat → ClassId} {ad : Nat → Nat} {i : Nat → Nat → Int32} {j : Nat → Nat → Int64} {w : Nat → Nat → Option Nat} : ∀ (as bs : List Ly) (n : Nat), bl_b i n as bs = true → as.mapIdx (fun k y => (ad (n + k), pc_e cy ad (i (n + k)) (j (n + k)) (w (n + k)) y)) = bs.mapIdx (fun k y => (ad (n + k), pc_e cy ad (i (n + k)) (j (n + k)) (w (n + k)) y))
  | [], [], _, _ => rfl
  | [], _ :: _, _, h => by cases h
  | _ :: _, [], _, h => by cases h
  | a :: as, b :: bs, n, h => by
    have h1 := (Bool.and_eq_true _ _).mp h
    have ih := bl_m (cy := cy) (ad := ad) (j := j) (w := w) as bs (n + 1) h1.2
    have e : (fun k y => (ad (n + (k + 1)), pc_e cy ad (i (n + (k + 1))) (j (n + (k + 1))) (w (n + (k + 1))) y)) = fun k y => (ad (n + 1 + k), pc_e cy ad (i (n + 1 + k)) (j (n + 1 + k)) (w (n + 1 + k)) y) := by
      funext k y
      rw [show n + (k + 1) = n + 1 + k by omega]
    rw [List.mapIdx_cons, List.mapIdx_cons]
    show (ad (n + 0), pc_e cy ad (i (n + 0)) (j (n + 0)) (w (n + 0)) a) :: List.mapIdx (fun k y => (ad (n + (k + 1)), pc_e cy ad (i (n + (k + 1))) (j (n + (k + 1))) (w (n + (k + 1))) y)) as = (ad (n + 0), pc_e cy ad (i (n + 0)) (j (n + 0)) (w (n + 0)) b) :: List.mapIdx (fun k y => (ad (n + (k + 1)), pc_e cy ad (i (n + (k + 1))) (j (n + (k + 1))) (w (n + (k + 1))) y)) bs
    rw [e, ih, Nat.add_zero, ly_m h1.1]
set_option maxRecDepth 100000 in
theorem bl_ok : bl_b hs_148.1 0 dl_71 l0_B = true := by decide +kernel
theorem cv_gen (cy : Nat → ClassId) (ad : Nat → Nat) (i : Nat → Nat → Int32) (j : Nat → Nat → Int64) (w : Nat → Nat → Option Nat) (hb : bl_b i 0 dl_71 l0_B = true) : dl_71.mapIdx (fun k y => (ad k, pc_e cy ad (i k) (j k) (w k) y)) = l0_B.mapIdx (fun k y => (ad k, pc_e cy ad (i k) (j k) (w k) y)) := by
  have e := bl_m (cy := cy) (ad := ad) (j := j) (w := w) dl_71 l0_B 0 hb
  have z : (fun k y => (ad (0 + k), pc_e cy ad (i (0 + k)) (j (0 + k)) (w (0 + k)) y)) = fun k y => (ad k, pc_e cy ad (i k) (j k) (w k) y) := by
    funext k y
    rw [Nat.zero_add]
  rw [z] at e
  exact e
theorem hF_1 : hF_0.1 = hs_148.1 := by unfold hF_0; rfl
theorem hF_2 : hF_0.2.1 = hs_148.2.1 := by unfold hF_0; rfl
theorem hF_3 : hF_0.2.2.1 = hs_148.2.2.1 := by unfold hF_0; rfl
theorem hF_4 : hF_0.2.2.2 = [] := by unfold hF_0; rfl
theorem cv_all (cy : Nat → ClassId) (ad : Nat → Nat) : wl_s cy ad [] hs_148 = wl_s cy ad l0_B hF_0 := by
  unfold wl_s
  rw [hF_1, hF_2, hF_3, hF_4, hd_148, List.nil_append, List.append_nil]
  exact cv_gen cy ad hs_148.1 hs_148.2.1 hs_148.2.2.1 bl_ok
theorem go_cv {C : GC} {ce sl pc : Nat} {L : List (Nat × Value)} {st : List Value} (kk : Go l0_B C ce sl pc L st hF_0) : Go [] C ce sl pc L st hs_148 := by
  obtain ⟨p, l, e, R0, s, m, args, below, meth, c, D, cy, A, nL0, AR, Q⟩ := C
  intro ad H locs ls ha hW hS hl
  refine kk ad H locs ls ha ?_ hS hl
  unfold wd_P at hW ⊢
  rw [← cv_all]
  exact hW
set_option maxRecDepth 100000 in
theorem hfs_11 : ∀ j, j < 12 → defaultValue (tyX11 j) = vp_V (([(2, 1), (2, 5), (2, 10), (2, 17), (2, 22), (0, 0), (2, 23), (2, 27), (2, 34), (2, 37), (2, 42), (0, 0)] : List (Nat × Nat)).mapIdx (pf_d (fun _ => 0) (fun _ => 0) (fun _ => 0))) j := by decide +kernel
set_option maxRecDepth 100000 in
theorem hfs_12 : ∀ j, j < 45 → defaultValue (tyX12 j) = vp_V (([(0, 0), (0, 0), (0, 0), (0, 0), (2, 44), (2, 45), (2, 46), (2, 47), (2, 48), (0, 0), (0, 0), (0, 0), (0, 0), (0, 0), (2, 49), (2, 50), (2, 51), (2, 52), (2, 53), (0, 0), (2, 54), (2, 55), (2, 56), (0, 0), (2, 57), (2, 58), (2, 59), (2, 60), (2, 61), (1, 0), (2, 62), (2, 63), (2, 64), (0, 0), (0, 0), (0, 0), (0, 0), (0, 0), (2, 65), (2, 66), (2, 67), (2, 68), (2, 69), (2, 70), (0, 0)] : List (Nat × Nat)).mapIdx (pf_d (fun _ => 0) (fun _ => 0) (fun _ => 0))) j := by decide +kernel
