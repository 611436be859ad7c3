/-! NEW CELLS: the heap's references point to cells that are there -/
/-- numbers from 1000000 on are no cells of the heap: the law's script has that number -/
def ag_n (n : Nat) (ad2 ad : Nat → Nat) : Prop := ∀ k, (k < n ∨ 1000000 ≤ k) → ad2 k = ad k
def wf_H (B : List Ly) (h : PH) : Prop := ∀ (k : Nat) (y : Ly), (B ++ h.2.2.2)[k]? = some y → (∀ a, y = .inl a → a.1 = 3 → ∀ x o, h.2.2.1 k x = some o → o < (B ++ h.2.2.2).length) ∧ ∀ o, y = .inr o → ∀ (j : Nat) (kd : Nat × Nat), o.2[j]? = some kd → (kd.1 = 0 ∨ kd.1 = 1) ∨ (kd.1 = 2 ∧ h.1 k j = 0) ∨ kd.2 < (B ++ h.2.2.2).length
theorem pc_ext {cy : Nat → ClassId} {ad ad2 : Nat → Nat} {i : Nat → Int32} {j : Nat → Int64} {w : Nat → Option Nat} {y : Ly} {N : Nat} (had : ∀ k, k < N → ad2 k = ad k) (h1 : ∀ a, y = .inl a → a.1 = 3 → ∀ x o, w x = some o → o < N) (h2 : ∀ o, y = .inr o → ∀ (q : Nat) (kd : Nat × Nat), o.2[q]? = some kd → (kd.1 = 0 ∨ kd.1 = 1) ∨ (kd.1 = 2 ∧ i q = 0) ∨ kd.2 < N) : pc_e cy ad2 i j w y = pc_e cy ad i j w y := by
  cases y with
  | inl a =>
    show Sum.inl _ = Sum.inl _
    by_cases h3 : a.1 = 3
    · have e : (fun x => (w x).map ad2) = fun x => (w x).map ad := by
        funext x
        cases hx : w x with
        | none => rfl
        | some o => exact congrArg some (had o (h1 a rfl h3 x o hx))
      rw [e]
    · simp [h3]
  | inr o =>
    show Sum.inr _ = Sum.inr _
    congr 2
    apply List.ext_getElem?
    intro q
    rw [List.getElem?_mapIdx, List.getElem?_mapIdx]
    cases hq : o.2[q]? with
    | none => rfl
    | some kd =>
      refine congrArg some ?_
      rcases h2 o rfl q kd hq with (h | h) | ⟨h, hz⟩ | h
      · simp [pf_d, h]
      · simp [pf_d, h]
      · simp [pf_d, h, hz]
      · simp [pf_d, had _ h]
theorem wl_new {cy : Nat → ClassId} {ad : Nat → Nat} {B : List Ly} {h : PH} {y : Ly} {q N : Nat} (hN : (B ++ h.2.2.2).length = N) (hwf : wf_H B h) : wl_s cy (va_up ad N q) B (ph_n h N y) = wl_s cy ad B h ++ [(q, pc_e cy (va_up ad N q) (fun _ => 0) (fun _ => 0) (fun _ => none) y)] := by
  have h0 : B ++ (ph_n h N y).2.2.2 = (B ++ h.2.2.2) ++ [y] := by show B ++ (h.2.2.2 ++ [y]) = _; rw [List.append_assoc]
  apply List.ext_getElem?
  intro k
  by_cases hk : k < N
  · have hg : k < (B ++ h.2.2.2).length := by rw [hN]; exact hk
    rw [List.getElem?_append_left (by rw [wl_len]; exact hg)]
    obtain ⟨z, hz⟩ : ∃ z, (B ++ h.2.2.2)[k]? = some z := ⟨_, List.getElem?_eq_getElem hg⟩
    rw [wl_get hz, wl_get (h := ph_n h N y) (y := z) (by rw [h0, List.getElem?_append_left hg]; exact hz)]
    have e1 : (ph_n h N y).1 k = h.1 k := up_R_n _ _ (Nat.ne_of_lt hk)
    have e2 : (ph_n h N y).2.1 k = h.2.1 k := up_R_n _ _ (Nat.ne_of_lt hk)
    have e3 : (ph_n h N y).2.2.1 k = h.2.2.1 k := up_R_n _ _ (Nat.ne_of_lt hk)
    rw [e1, e2, e3, va_up_ne _ _ (Nat.ne_of_lt hk)]
    have hw := hwf k z hz
    rw [hN] at hw
    rw [pc_ext (N := N) (fun k hk => va_up_ne _ _ (Nat.ne_of_lt hk)) hw.1 hw.2]
  · by_cases hk2 : k = N
    · subst hk2
      rw [wl_get (h := ph_n h k y) (y := y) (by rw [h0, List.getElem?_append_right (by omega), hN]; simp), List.getElem?_append_right (by rw [wl_len]; omega), wl_len, hN]
      have e1 : (ph_n h k y).1 k = fun _ => 0 := up_R_s _ _ _
      have e2 : (ph_n h k y).2.1 k = fun _ => 0 := up_R_s _ _ _
      have e3 : (ph_n h k y).2.2.1 k = fun _ => none := up_R_s _ _ _
      rw [e1, e2, e3, va_up_self]
      simp
    · rw [List.getElem?_eq_none_iff.mpr (by rw [wl_len, h0]; simp at hN ⊢; omega), List.getElem?_eq_none_iff.mpr (by rw [List.length_append, wl_len]; simp at hN ⊢; omega)]
def rf_lt (n : Nat) (v : Value) : Prop := ∀ a, v = .ref a → a < n ∨ 1000000 ≤ a
theorem pv_ext {ad ad2 : Nat → Nat} {n : Nat} (had : ag_n n ad2 ad) {v : Value} (hv : rf_lt n v) : pv_c ad2 v = pv_c ad v := by
  cases v with
  | ref a => show Value.ref _ = Value.ref _; rw [had a (hv a rfl)]
  | _ => rfl
theorem ps_ext {ad ad2 : Nat → Nat} {n : Nat} (had : ag_n n ad2 ad) {st : List Value} (hv : ∀ v ∈ st, rf_lt n v) : st.map (pv_c ad2) = st.map (pv_c ad) := List.map_congr_left (fun v h => pv_ext had (hv v h))
theorem pl_ext {ad ad2 : Nat → Nat} {n : Nat} (had : ag_n n ad2 ad) {L : List (Nat × Value)} (hv : ∀ q ∈ L, rf_lt n q.2) : lc_v ad2 L = lc_v ad L := List.map_congr_left (fun q h => by rw [pv_ext had (hv q h)])
def cx_AR (C : GC) (n : Nat) : Prop := match C with
  | (_, _, _, _, _, _, _, _, _, _, _, _, _, _, AR, _) => ∀ ad ad2 : Nat → Nat, AR ad → ag_n n ad2 ad → AR ad2
/-- contracts of methods that make cells -/
def cq_QA (D : va_G) (cy : Nat → ClassId) (B : List Ly) (ad : Nat → Nat) (h : PH) (sz : Nat) (r : Option Value) (h2 : PH) : Array Value → State → Outcome → State → Prop := fun _ st oc t => (∃ ad2 : Nat → Nat, ag_n (B ++ h.2.2.2).length ad2 ad ∧ oc = .returned (r.map (pv_c ad2)) ∧ wd_P D cy (va_A (wl_s cy ad B h) sz) B ad2 h2 t.heap) ∧ va_F (va_A (wl_s cy ad B h) sz) st t
def ConA (y : MethodName) (ws : List Cond) (rm : Room) (B : List Ly) (As : List Value) (h : PH) (r : Option Value) (h2 : PH) : Prop :=
  ∀ (l : Launch) (D : va_G) (cy : Nat → ClassId) (ad : Nat → Nat) (sz : Nat), Met l y ws rm (cq_P D cy B ad h sz As) (cq_QA D cy B ad h sz r h2) rm.cells rm.slots (va_A (wl_s cy ad B h) sz)
theorem con_wA {y : MethodName} {ws ws' : List Cond} {rm : Room} {B : List Ly} {As : List Value} {h h2 : PH} {r : Option Value} {cc : ByteArray} {nL : Nat} {ret : Option FieldType} (hy : plainName y.cls = true) (hw : ws = Cond.code y cc nL ret :: ws') (hlen : (lg_sl As).length ≤ nL)
    (fin : GC → Prop)
    (hfin : ∀ (p : Program) (l : Launch) (e : Env) (s : State) (m : MethodId) (args : Array Value) (below : List Frame) (meth : Method) (c : Code) (D : va_G) (cy : Nat → ClassId) (ad : Nat → Nat), p.tables.exec = Jvm.exec → c.code = cc → meth.sig.returnType = ret → meth.locks = false → fin (p, l, e, rm, s, m, args, below, meth, c, D, cy, va_A (wl_s cy ad B h) s.heap.size, nL, (fun ad2 => ag_n (B ++ h.2.2.2).length ad2 ad), MQ below (cq_QA D cy B ad h s.heap.size r h2) args s rm.cells rm.slots (va_A (wl_s cy ad B h) s.heap.size)))
    (body : ∀ C : GC, Cx C cc nL ws y.cls ret rm → fin C → (∀ n, (B ++ h.2.2.2).length ≤ n → cx_AR C n) → (y.name = "<init>" → cx_init C) → Go B C 0 0 0 (lv_args 0 As) [] h) : ConA y ws rm B As h r h2 := by
  intro l D cy ad sz
  refine Met.ofW (cc := cc) (maxL := nL) (ret := ret) hy hw ?_
  intro p e s m args below meth c s₁ Bd hml hv
  obtain ⟨hav, hsz, ⟨hP, hD0⟩, hK⟩ := hv
  subst hsz
  subst hav
  have hD := hD0.self (sz := s.heap.size)
  have hA : ∀ q : Nat, s.heap.size ≤ q → va_A (wl_s cy ad B h) s.heap.size q := fun q hq => Or.inr hq
  have hl := lv_entry (As.map (pv_c ad)) (n := nL) (by rw [lg_len]; exact hlen)
  rw [lg_entry_eq]
  rw [lc_args] at hl
  exact body (p, l, e, rm, s, m, (As.map (pv_c ad)).toArray, below, meth, c, D, cy, va_A (wl_s cy ad B h) s.heap.size, nL, (fun ad2 => ag_n (B ++ h.2.2.2).length ad2 ad), MQ below (cq_QA D cy B ad h s.heap.size r h2) (As.map (pv_c ad)).toArray s rm.cells rm.slots (va_A (wl_s cy ad B h) s.heap.size)) ⟨Bd.exec, Bd.bytes, hml, rfl, rfl, findClass_of_methodNamed Bd.named, atoms_spec Bd.pre, hK, Bd.returns, Bd.notSynchronized, hA⟩ (hfin p l e s m _ below meth c D cy ad Bd.exec Bd.bytes Bd.returns Bd.notSynchronized) (fun n hn ad1 ad2 h1 h2 k hk => (h2 k (hk.imp (fun q => Nat.lt_of_lt_of_le q hn) id)).trans (h1 k hk)) (fun hi => (name_of_methodNamed Bd.named Bd.method).1.trans hi) ad s.heap [] _ (fun _ _ => rfl) ⟨hP, hD⟩ va_S.rf hl
theorem con_vA {y : MethodName} {ws ws' : List Cond} {rm : Room} {B : List Ly} {As : List Value} {h h2 : PH} {cc : ByteArray} {nL : Nat} (hy : plainName y.cls = true) (hw : ws = Cond.code y cc nL none :: ws') (hlen : (lg_sl As).length ≤ nL)
    (body : ∀ C : GC, Cx C cc nL ws y.cls none rm → (∀ (pc : Nat) (L : List (Nat × Value)), decode cc pc = .ok (.return_, 1) → Go B C rm.cells rm.slots pc L [] h2) → (∀ n, (B ++ h.2.2.2).length ≤ n → cx_AR C n) → (y.name = "<init>" → cx_init C) → Go B C 0 0 0 (lv_args 0 As) [] h) : ConA y ws rm B As h none h2 := by
  refine con_wA hy hw hlen _ ?_ body
  intro p l e s m args below meth c D cy ad hx hb hr hlocks pc L hdg ad2 H locs ls h3 hW hS hl
  exact W.vret hx hb hr (fun t ht hWm => ⟨⟨ad2, h3, rfl, ⟨by rw [ht]; exact hW.1, hW.2⟩⟩, hS.F ht⟩) hS.2.2 hdg
theorem con_iA {y : MethodName} {ws ws' : List Cond} {rm : Room} {B : List Ly} {As : List Value} {h h2 : PH} {r : Int32} {cc : ByteArray} {nL : Nat} {ty : FieldType} (hy : plainName y.cls = true) (hw : ws = Cond.code y cc nL (some ty) :: ws') (hlen : (lg_sl As).length ≤ nL)
    (body : ∀ C : GC, Cx C cc nL ws y.cls (some ty) rm → (∀ (pc : Nat) (L : List (Nat × Value)), narrow ty (.int r) = .int r → decode cc pc = .ok (.ireturn, 1) → Go B C rm.cells rm.slots pc L [.int r] h2) → (∀ n, (B ++ h.2.2.2).length ≤ n → cx_AR C n) → (y.name = "<init>" → cx_init C) → Go B C 0 0 0 (lv_args 0 As) [] h) : ConA y ws rm B As h (some (.int r)) h2 := by
  refine con_wA hy hw hlen _ ?_ body
  intro p l e s m args below meth c D cy ad hx hb hr hlocks pc L hn hdg ad2 H locs ls h3 hW hS hl
  exact W.zret hx hb hr hn (fun t ht hWm => ⟨⟨ad2, h3, rfl, ⟨by rw [ht]; exact hW.1, hW.2⟩⟩, hS.F ht⟩) hS.2.2 hdg
section GA
variable {C : GC} {cc : ByteArray} {nL : Nat} {Ts : List Cond} {own : String} {ret : Option FieldType} {R : Room} {B : List Ly} {ce sl pc : Nat} {L : List (Nat × Value)} {st : List Value} {h : PH}
/-- a new array of ints, booleans or longs -/
theorem go_newa (hC : Cx C cc nL Ts own ret R) {t N N2 : Nat} {atype : ArrayType} {n : Int32} (ht : (t = 0 ∧ atype = .int) ∨ (t = 1 ∧ atype = .boolean) ∨ (t = 2 ∧ atype = .long)) (hw : Cond.arrayClass (newarray.typeOf atype) ∈ Ts) (hn : ¬ n < 0) (hN2 : n.toNatClampNeg = N2) (hb8 : N2 ≤ 10000) (hce : ce + 1 ≤ R.cells) (hsl : sl + N2 ≤ R.slots) (hN : (B ++ h.2.2.2).length = N) (hwf : wf_H B h) (hNb : N < 1000000) (hAR : cx_AR C N) (hL : ∀ q ∈ L, rf_lt N q.2) (hst : ∀ v ∈ st, rf_lt N v) (hdg : decode cc pc = .ok (.newarray atype, 2)) (kk : Go B C (ce + 1) (sl + N2) (pc + 2) L (.ref N :: st) (ph_n h N (.inl (t, N2)))) : Go B C ce sl pc L (.int n :: st) h := by
  obtain ⟨p, l, e, R0, s, m, args, below, meth, c, D, cy, A, nL0, AR, Q⟩ := C
  obtain ⟨h1, h2', h3, h4, h5, h6, h7, h8, h9, h10, h11⟩ := hC
  subst h5
  intro ad H locs ls ha hW hS hl
  have fin : ∀ (q : Nat) (H1 : Heap), va_P D vwCl (wl_s cy ad B h ++ [(q, pc_e cy (va_up ad N q) (fun _ => 0) (fun _ => 0) (fun _ => none) (.inl (t, N2)))]) H1 → va_D A (wl_s cy ad B h ++ [(q, pc_e cy (va_up ad N q) (fun _ => 0) (fun _ => 0) (fun _ => none) (.inl (t, N2)))]) → va_S A s.heap H1 locs → W p l e R0 s m args below meth c H1 locs (ce + 1) (sl + N2) Q (F0 m (pc + 2) ls (.ref q :: st.map (pv_c ad))) := by
    intro q H1 hP1 hD1 hS1
    rw [← wl_new hN hwf] at hP1 hD1
    have had : ag_n N (va_up ad N q) ad := fun k hk => va_up_ne _ _ (by omega)
    have := kk (va_up ad N q) H1 locs ls (hAR ad _ ha had) ⟨hP1, hD1⟩ hS1 (by rw [pl_ext had hL]; exact hl)
    rw [List.map_cons, ps_ext had hst] at this
    rw [show pv_c (va_up ad N q) (.ref N) = .ref q by show Value.ref _ = _; rw [va_up_self]] at this
    exact this
  rcases ht with ⟨rfl, rfl⟩ | ⟨rfl, rfl⟩ | ⟨rfl, rfl⟩
  · refine va_newa (a0 := (N2, .inl (fun _ => 0))) h1 h2' (h7 _ hw) rfl h8.1 hW.1 hW.2 hS h11 (fun cA => rfl) hn hN2 (by show N2 * 4 ≤ _; omega) hce hsl hdg (fun q cA H1 hK1 hP1 hD1 hS1 => ?_)
    have hcA : cA = cy 0 := Option.some.inj ((hK1.2 4 _ rfl).2.symm.trans (h8.1.2 0 _ rfl).2)
    subst hcA
    exact fin q H1 hP1 hD1 hS1
  · refine va_newa (a0 := (N2, .inl (fun _ => 0))) h1 h2' (h7 _ hw) rfl h8.1 hW.1 hW.2 hS h11 (fun cA => rfl) hn hN2 (by show N2 * 1 ≤ _; omega) hce hsl hdg (fun q cA H1 hK1 hP1 hD1 hS1 => ?_)
    have hcA : cA = cy 1 := Option.some.inj ((hK1.2 4 _ rfl).2.symm.trans (h8.1.2 1 _ rfl).2)
    subst hcA
    exact fin q H1 hP1 hD1 hS1
  · refine va_newa (a0 := (N2, .inr (.inl (fun _ => 0)))) h1 h2' (h7 _ hw) rfl h8.1 hW.1 hW.2 hS h11 (fun cA => rfl) hn hN2 (by show N2 * 8 ≤ _; omega) hce hsl hdg (fun q cA H1 hK1 hP1 hD1 hS1 => ?_)
    have hcA : cA = cy 2 := Option.some.inj ((hK1.2 4 _ rfl).2.symm.trans (h8.1.2 2 _ rfl).2)
    subst hcA
    exact fin q H1 hP1 hD1 hS1
/-- the new row of ways -/
theorem go_newq (hC : Cx C cc nL Ts own ret R) {N N2 idx : Nat} {n : Int32} (hw : Cond.classLink own idx "LampWays$Chain" ∈ Ts) (hn : ¬ n < 0) (hN2 : n.toNatClampNeg = N2) (hb8 : N2 ≤ 10000) (hce : ce + 1 ≤ R.cells) (hsl : sl + N2 ≤ R.slots) (hN : (B ++ h.2.2.2).length = N) (hwf : wf_H B h) (hNb : N < 1000000) (hAR : cx_AR C N) (hL : ∀ q ∈ L, rf_lt N q.2) (hst : ∀ v ∈ st, rf_lt N v) (hdg : decode cc pc = .ok (.anewarray idx, 3)) (kk : Go B C (ce + 1) (sl + N2) (pc + 3) L (.ref N :: st) (ph_n h N (.inl (3, N2)))) : Go B C ce sl pc L (.int n :: st) h := by
  obtain ⟨p, l, e, R0, s, m, args, below, meth, c, D, cy, A, nL0, AR, Q⟩ := C
  obtain ⟨h1, h2', h3, h4, h5, h6, h7, h8, h9, h10, h11⟩ := hC
  subst h5
  intro ad H locs ls ha hW hS hl
  refine va_newq (C := "LampWays$Chain") h1 h2' h6 (h7 _ hw) h8.2.2.2.2.2.2.2 h8.1 hW.1 hW.2 hS h11 hn hN2 (by omega) hce hsl hdg (fun q cA H1 hK1 hP1 hD1 hS1 => ?_)
  have hcA : cA = cy 3 := by
    obtain ⟨kA, comp, k1, k2, k3, k4⟩ := (hK1.2 4 _ rfl).2
    obtain ⟨kA', comp', k1', k2', k3', k4'⟩ := (h8.1.2 3 _ rfl).2
    exact Option.some.inj (k4.symm.trans k4')
  subst hcA
  have e0 : (Sum.inl (cy 3, N2, Sum.inr (Sum.inr (Sum.inr (Sum.inr (fun _ => none))))) : va_E) = pc_e cy (va_up ad N q) (fun _ => 0) (fun _ => 0) (fun _ => none) (.inl (3, N2)) := rfl
  rw [e0, ← wl_new hN hwf] at hP1 hD1
  have had : ag_n N (va_up ad N q) ad := fun k hk => va_up_ne _ _ (by omega)
  have := kk (va_up ad N q) H1 locs ls (hAR ad _ ha had) ⟨hP1, hD1⟩ hS1 (by rw [pl_ext had hL]; exact hl)
  rw [List.map_cons, ps_ext had hst] at this
  rw [show pv_c (va_up ad N q) (.ref N) = .ref q by show Value.ref _ = _; rw [va_up_self]] at this
  exact this
/-- a new object -/
theorem go_new (hC : Cx C cc nL Ts own ret R) {ci idx N Nf : Nat} {ks : List (Nat × Nat)} {Cn : String} {T : u_T} (ty : Nat → FieldType) (hcl : vwCl[ci]? = some (Cn, T, Nf)) (hin : ∀ w ∈ u_ws Cn T Nf, w ∈ Ts) (hty : ∀ k, k < Nf → parseFieldDescriptor (T k).2.2.1 = some (ty k)) (hw1 : Cond.classLink own idx Cn ∈ Ts) (hw2 : Cond.instantiable Cn Nf ∈ Ts) (hw3 : Cond.initialized Cn ∈ Ts) (hfs : ∀ j, j < Nf → defaultValue (ty j) = vp_V (ks.mapIdx (pf_d (fun _ => 0) (fun _ => 0) (fun _ => 0))) j) (hks : ∀ kd ∈ ks, kd.1 < 3) (hce : ce + 1 ≤ R.cells) (hsl : sl + Nf ≤ R.slots) (hN : (B ++ h.2.2.2).length = N) (hwf : wf_H B h) (hNb : N < 1000000) (hAR : cx_AR C N) (hL : ∀ q ∈ L, rf_lt N q.2) (hst : ∀ v ∈ st, rf_lt N v) (hdg : decode cc pc = .ok (.new idx, 3)) (kk : Go B C (ce + 1) (sl + Nf) (pc + 3) L (.ref N :: st) (ph_n h N (.inr (ci, ks)))) : Go B C ce sl pc L st h := by
  obtain ⟨p, l, e, R0, s, m, args, below, meth, c, D, cy, A, nL0, AR, Q⟩ := C
  obtain ⟨h1, h2', h3, h4, h5, h6, h7, h8, h9, h10, h11⟩ := hC
  subst h5
  intro ad H locs ls ha hW hS hl
  refine va_new (fs := ks.mapIdx (pf_d (fun _ => 0) (fun _ => 0) (fun _ => 0))) h1 h2' h7 hin ty hty h6 (h7 _ hw1) (h7 _ hw2) (h7 _ hw3) h8.1 hW.1 hW.2 hS h11 hcl hfs hce hsl hdg (fun q H1 hP1 hD1 hS1 => ?_)
  have e0 : (Sum.inr (ci, ks.mapIdx (pf_d (fun _ => 0) (fun _ => 0) (fun _ => 0))) : va_E) = pc_e cy (va_up ad N q) (fun _ => 0) (fun _ => 0) (fun _ => none) (.inr (ci, ks)) := by
    show Sum.inr _ = Sum.inr _
    congr 2
    apply List.ext_getElem?
    intro j
    rw [List.getElem?_mapIdx, List.getElem?_mapIdx]
    cases hj : ks[j]? with
    | none => rfl
    | some kd =>
      refine congrArg some ?_
      have h3 := hks kd (List.mem_of_getElem? hj)
      obtain ⟨a, b⟩ := kd
      have h4 : a = 0 ∨ a = 1 ∨ a = 2 := by simp at h3; omega
      rcases h4 with rfl | rfl | rfl <;> rfl
  rw [e0, ← wl_new hN hwf] at hP1 hD1
  have had : ag_n N (va_up ad N q) ad := fun k hk => va_up_ne _ _ (by omega)
  have := kk (va_up ad N q) H1 locs ls (hAR ad _ ha had) ⟨hP1, hD1⟩ hS1 (by rw [pl_ext had hL]; exact hl)
  rw [List.map_cons, ps_ext had hst] at this
  rw [show pv_c (va_up ad N q) (.ref N) = .ref q by show Value.ref _ = _; rw [va_up_self]] at this
  exact this
theorem go_obj (hC : Cx C cc nL Ts own ret R) {a idx : Nat} (hw1 : Cond.methodLink own idx objectInit ∈ Ts) (hw2 : Cond.instanceMethod objectInit ∈ Ts) (hw3 : Cond.code objectInit ⟨#[0xb1]⟩ 1 none ∈ Ts) (hR : 1 ≤ R.frames ∧ (st.map fun v => v.category).sum + 12 ≤ R.locals) (hdg : decode cc pc = .ok (.invokespecial idx, 3)) (kk : Go B C ce sl (pc + 3) L st h) : Go B C ce sl pc L (.ref a :: st) h := by
  obtain ⟨p, l, e, R0, s, m, args, below, meth, c, D, cy, A, nL0, AR, Q⟩ := C
  obtain ⟨h1, h2', h3, h4, h5, h6, h7, h8, h9, h10, h11⟩ := hC
  subst h4
  subst h5
  intro ad H locs ls ha hW hS hl
  exact W.objInit h1 h2' h6 (h7 _ hw1) (h7 _ hw2) (h7 _ hw3) rfl (hl.1.trans h3.symm) rfl hdg hR.1 (by show 2 * 0 + _ + 12 ≤ _; rw [pv_sum]; omega) (kk ad H locs ls ha hW hS hl)
end GA
section GA2
variable {p : Program} {l : Launch} {e : Env} {R : Room} {s : State} {m : MethodId} {args : Array Value} {below : List Frame} {meth : Method} {c : Code} {H : Heap} {locs : List Loc} {ce sl pc mc ms : Nat} {Q : State → Prop} {ls : Array Slot}
theorem cg_WA {D : va_G} {cy : Nat → ClassId} {A : Nat → Prop} {B : List Ly} {ad : Nat → Nat} {h h2 : PH} {r : Option Value} {rest st0 : List Value} {a : Array Value} (hr : va_Run p l e R s m args below meth c H locs ce sl mc ms (F0 m pc ls st0) rest (cq_QA D cy B ad h H.size r h2 a) (va_A (wl_s cy ad B h) H.size)) (hS : va_S A s.heap H locs) (hF : ∀ q, va_A (wl_s cy ad B h) H.size q → A q)
    (kk : ∀ (ad2 : Nat → Nat) (H1 : Heap) (locs1 : List Loc), ag_n (B ++ h.2.2.2).length ad2 ad → wd_P D cy A B ad2 h2 H1 → va_S A s.heap H1 locs1 → W p l e R s m args below meth c H1 locs1 (ce + mc) (sl + ms) Q (F0 m (pc + 3) ls ((r.map (pv_c ad2)).toList ++ rest))) : W p l e R s m args below meth c H locs ce sl Q (F0 m pc ls st0) := by
  intro T hT X
  obtain ⟨v, st₀, t, T', L, h0, X', hL, e1, e2, ⟨⟨ad2, had, hv, hWd⟩, hz, hk⟩, stp⟩ := hr T hT X
  cases hv
  rw [h0] at hz hk
  obtain ⟨t2, a1, b1⟩ := kk ad2 T'.heap (locs ++ L) had ⟨by rw [e1]; exact hWd.1, hWd.2.weaken (fun _ q _ hq => hF q.1 hq)⟩ ⟨Nat.le_trans hS.1 (by rw [e1]; exact hz), fun q g1 g2 => by rw [e1, hk q (Nat.lt_of_lt_of_le g1 hS.1) (fun z => g2 (hF q z))]; exact hS.2.1 q g1 g2, fun q hq => by
      rcases List.mem_append.mp hq with g | g
      · exact hS.2.2 q g
      · exact hF _ (hL q g)⟩ T' rfl X'
  exact ⟨t2, stp t2 a1, b1⟩
end GA2
section GA3
variable {C : GC} {cc : ByteArray} {nL : Nat} {Ts : List Cond} {own : String} {ret : Option FieldType} {R : Room} {B : List Ly} {ce sl pc : Nat} {L : List (Nat × Value)} {st : List Value} {h : PH}
variable {y x : MethodName} {ws ws' : List Cond} {rm : Room} {As st0 : List Value} {r : Option Value} {h2 : PH} {k ci idx n N maxL : Nat} {bytes : ByteArray} {rt : Option FieldType} {ks : List (Nat × Nat)} {Cn owner : String} {T : u_T}
theorem go_callI (hC : Cx C cc nL Ts own ret R) (hM : ConA y ws rm B (.ref k :: As) h none h2) (hG : GoodIn Ts ws) (hw : ws = Cond.code y bytes maxL none :: ws') (mc ms : Nat) (hrc : rm.cells = mc ∧ rm.slots = ms) (hw1 : Cond.initialized y.cls ∈ Ts) (hw2 : Cond.methodLink own idx y ∈ Ts) (hw3 : Cond.instanceMethod y ∈ Ts) (hy1 : y.name = "<init>") (n : Nat) (hd : y.cls ≠ "java/lang/invoke/MethodHandle" ∧ y.cls ≠ "java/lang/invoke/VarHandle" ∧ (parseMethodDescriptor y.desc).map (fun d => d.parameters.length) = some n) (hR : rm.frames + 1 ≤ R.frames ∧ 8 + (maxL + 11) + rm.locals ≤ R.locals) (hn : As.length = n) (hst : st0 = As.reverse ++ .ref k :: st) (hsum : (st.map fun v => v.category).sum ≤ 8) (hce : ce + mc ≤ R.cells ∧ sl + ms ≤ R.slots) (hN : (B ++ h.2.2.2).length = N) (hAR : cx_AR C N) (hL : ∀ q ∈ L, rf_lt N q.2) (hsr : ∀ v ∈ st, rf_lt N v) (hdg : decode cc pc = .ok (.invokespecial idx, 3)) (kk : Go B C (ce + mc) (sl + ms) (pc + 3) L st h2) : Go B C ce sl pc L st0 h := by
  obtain ⟨p, l, e, R0, s, m, args, below, meth, c, D, cy, A, nL0, AR, Q⟩ := C
  obtain ⟨h1, h2', h3, h4, h5, h6, h7, h8, h9, h10, h11⟩ := hC
  subst h4
  subst h5
  subst hst
  intro ad H locs ls ha hW hS hl
  have hM' := hM l D cy ad H.size
  rw [hrc.1, hrc.2] at hM'
  refine cg_WA (rest := st.map (pv_c ad)) (va_runI (g := F0 m pc ls _) (b := ad k) (As := As.map (pv_c ad)) (rest := st.map (pv_c ad)) ⟨h1, h2', h3, h6, h7⟩ hM' (cwI n h7 hG hw hrc.1 hrc.2 (h7 _ hw1) (h7 _ hw2) (h7 _ hw3) hy1 hd hR) ⟨cq_blind D cy B ad h H.size _, fun U hU hWm => ⟨rfl, by rw [hU], ⟨by rw [hU]; exact hW.1, hW.2.weaken (fun _ _ _ _ => trivial)⟩, kz_W hWm h8⟩⟩ rfl (by rw [List.length_map]; exact hn) hl.1 (by simp [pv_c]) (lv_room (by rw [pv_sum]; exact hsum)) hdg hce) hS (cg_F hW.2 hS h11) (fun ad2 H1 locs1 had hW1 hS1 => ?_)
  rw [hN] at had
  have := kk ad2 H1 locs1 ls (hAR ad _ ha had) hW1 hS1 (by rw [pl_ext had hL]; exact hl)
  rw [ps_ext had hsr] at this
  exact this
theorem go_callVA (hC : Cx C cc nL Ts own ret R) (hM : ConA y ws rm B (.ref k :: As) h r h2) (hG : GoodIn Ts (wsV own idx Cn y ws)) (hw : ws = Cond.code y bytes maxL rt :: ws') (mc ms : Nat) (hrc : rm.cells = mc ∧ rm.slots = ms) (n : Nat) (hd : y.cls = Cn ∧ y.cls ≠ "java/lang/invoke/MethodHandle" ∧ y.cls ≠ "java/lang/invoke/VarHandle" ∧ (parseMethodDescriptor y.desc).map (fun d => d.parameters.length) = some n) (hR : rm.frames + 1 ≤ R.frames ∧ 8 + (maxL + 11) + rm.locals ≤ R.locals) (hB : (B ++ h.2.2.2)[k]? = some (.inr (ci, ks))) (hcl : vwCl[ci]? = some (Cn, T, N)) (hn : As.length = n) (hst : st0 = As.reverse ++ .ref k :: st) {st1 : List Value} (hst1 : r.toList ++ st = st1) (hri : ∀ v ∈ r, rf_lt 0 v) (hsum : (st.map fun v => v.category).sum ≤ 8) (hce : ce + mc ≤ R.cells ∧ sl + ms ≤ R.slots) {N2 : Nat} (hN : (B ++ h.2.2.2).length = N2) (hAR : cx_AR C N2) (hL : ∀ q ∈ L, rf_lt N2 q.2) (hsr : ∀ v ∈ st, rf_lt N2 v) (hdg : decode cc pc = .ok (.invokevirtual idx, 3)) (kk : Go B C (ce + mc) (sl + ms) (pc + 3) L st1 h2) : Go B C ce sl pc L st0 h := by
  obtain ⟨p, l, e, R0, s, m, args, below, meth, c, D, cy, A, nL0, AR, Q⟩ := C
  obtain ⟨h1, h2', h3, h4, h5, h6, h7, h8, h9, h10, h11⟩ := hC
  subst h4
  subst h5
  subst hst
  intro ad H locs ls ha hW hS hl
  have hM' := hM l D cy ad H.size
  rw [hrc.1, hrc.2] at hM'
  refine cg_WA (rest := st.map (pv_c ad)) (va_runV (g := F0 m pc ls _) (b := ad k) (As := As.map (pv_c ad)) (rest := st.map (pv_c ad)) ⟨h1, h2', h3, h6, h7⟩ hM' (cwV n h7 hG hw hrc.1 hrc.2 hd hR) ⟨cq_blind D cy B ad h H.size _, va_recv h8.1 hW.1 hcl (wl_get hB), fun U hU hWm => ⟨rfl, by rw [hU], ⟨by rw [hU]; exact hW.1, hW.2.weaken (fun _ _ _ _ => trivial)⟩, kz_W hWm h8⟩⟩ rfl (by rw [List.length_map]; exact hn) hl.1 (by simp [pv_c]) (lv_room (by rw [pv_sum]; exact hsum)) hdg hce) hS (cg_F hW.2 hS h11) (fun ad2 H1 locs1 had hW1 hS1 => ?_)
  rw [hN] at had
  have := kk ad2 H1 locs1 ls (hAR ad _ ha had) hW1 hS1 (by rw [pl_ext had hL]; exact hl)
  rw [← hst1, ← cg_st, ps_ext had hsr] at this
  exact this
end GA3
theorem wf_n {B : List Ly} {h : PH} {y : Ly} {N : Nat} (hN : (B ++ h.2.2.2).length = N) (hy : ∀ o, y = .inr o → ∀ kd ∈ o.2, kd.1 < 3) (hwf : wf_H B h) : wf_H B (ph_n h N y) := by
  have h0 : B ++ (ph_n h N y).2.2.2 = (B ++ h.2.2.2) ++ [y] := by show B ++ (h.2.2.2 ++ [y]) = _; rw [List.append_assoc]
  intro k z hz
  rw [h0] at hz ⊢
  have hl : ((B ++ h.2.2.2) ++ [y]).length = N + 1 := by rw [List.length_append, hN]; rfl
  rw [hl]
  by_cases hk : k < N
  · rw [List.getElem?_append_left (by rw [hN]; exact hk)] at hz
    have hw := hwf k z hz
    rw [hN] at hw
    have e1 : (ph_n h N y).1 k = h.1 k := up_R_n _ _ (Nat.ne_of_lt hk)
    have e3 : (ph_n h N y).2.2.1 k = h.2.2.1 k := up_R_n _ _ (Nat.ne_of_lt hk)
    rw [e1, e3]
    refine ⟨fun a ha h3 x o hx => Nat.lt_succ_of_lt (hw.1 a ha h3 x o hx), fun o ho j kd hj => ?_⟩
    rcases hw.2 o ho j kd hj with q | q | q
    · exact Or.inl q
    · exact Or.inr (Or.inl q)
    · exact Or.inr (Or.inr (Nat.lt_succ_of_lt q))
  · rw [List.getElem?_append_right (by rw [hN]; omega), hN] at hz
    have hk2 : k - N = 0 := by
      have := (List.getElem?_eq_some_iff.mp hz).1
      simp at this
      omega
    rw [hk2] at hz
    have hzy : z = y := by simp at hz; exact hz.symm
    subst hzy
    have hkN : k = N := by omega
    subst hkN
    have e1 : (ph_n h k z).1 k = fun _ => 0 := up_R_s _ _ _
    have e3 : (ph_n h k z).2.2.1 k = fun _ => none := up_R_s _ _ _
    rw [e1, e3]
    refine ⟨fun a ha h3 x o hx => (by cases hx), fun o ho j kd hj => ?_⟩
    have h3 := hy o ho kd (List.mem_of_getElem? hj)
    have h4 : kd.1 = 0 ∨ kd.1 = 1 ∨ kd.1 = 2 := by omega
    rcases h4 with q | q | q
    · exact Or.inl (Or.inl q)
    · exact Or.inl (Or.inr q)
    · exact Or.inr (Or.inl ⟨q, rfl⟩)
theorem wf_i {B : List Ly} {h : PH} {y : Ly} {k j : Nat} {v : Int32} (hB : (B ++ h.2.2.2)[k]? = some y) (hy : (∃ a, y = .inl a) ∨ ∃ o kd, y = .inr o ∧ o.2[j]? = some kd ∧ ((kd.1 = 0 ∨ kd.1 = 1) ∨ kd.2 < (B ++ h.2.2.2).length)) (hwf : wf_H B h) : wf_H B (ph_i h k j v) := by
  intro q z hz
  have hw := hwf q z hz
  refine ⟨hw.1, fun o ho i kd hi => ?_⟩
  show _ ∨ (_ ∧ up_R h.1 k (upd (h.1 k) j v) q i = 0) ∨ _
  by_cases hq : q = k
  · subst hq
    rw [up_R_s]
    by_cases hij : i = j
    · subst hij
      have hzy : z = y := Option.some.inj (hz.symm.trans hB)
      subst hzy
      rcases hy with ⟨a, ha⟩ | ⟨o2, kd2, ho2, hk2, hc⟩
      · rw [ha] at ho; cases ho
      · rw [ho2] at ho
        cases ho
        cases hi.symm.trans hk2
        rcases hc with hc | hc
        · exact Or.inl hc
        · exact Or.inr (Or.inr hc)
    · rcases hw.2 o ho i kd hi with g | g | g
      · exact Or.inl g
      · exact Or.inr (Or.inl ⟨g.1, by simp [upd, hij]; exact g.2⟩)
      · exact Or.inr (Or.inr g)
  · rw [up_R_n _ _ hq]
    exact hw.2 o ho i kd hi
theorem wf_r {B : List Ly} {h : PH} {a : Nat × Nat} {k : Nat} {g : Nat → Int32} (hB : (B ++ h.2.2.2)[k]? = some (.inl a)) (hwf : wf_H B h) : wf_H B (ph_r h k g) := by
  intro q z hz
  have hw := hwf q z hz
  refine ⟨hw.1, fun o ho i kd hi => ?_⟩
  show _ ∨ (_ ∧ up_R h.1 k g q i = 0) ∨ _
  by_cases hq : q = k
  · subst hq
    cases (hz.symm.trans hB)
    cases ho
  · rw [up_R_n _ _ hq]
    exact hw.2 o ho i kd hi
theorem wf_w {B : List Ly} {h : PH} {k j : Nat} {v : Option Nat} (hv : ∀ o, v = some o → o < (B ++ h.2.2.2).length) (hwf : wf_H B h) : wf_H B (ph_w h k j v) := by
  intro q z hz
  have hw := hwf q z hz
  refine ⟨fun a ha h3 x o hx => ?_, hw.2⟩
  have hx : up_R h.2.2.1 k (va_up (h.2.2.1 k) j v) q x = some o := hx
  by_cases hq : q = k
  · subst hq
    rw [up_R_s] at hx
    by_cases hxj : x = j
    · subst hxj
      rw [va_up_self] at hx
      exact hv o hx
    · rw [va_up_ne _ _ hxj] at hx
      exact hw.1 a ha h3 x o hx
  · rw [up_R_n _ _ hq] at hx
    exact hw.1 a ha h3 x o hx
def rf_b (n : Nat) (v : Value) : Bool := match v with
  | .ref a => Nat.blt a n || Nat.ble 1000000 a
  | _ => true
theorem rf_ok {n : Nat} {v : Value} (h : rf_b n v = true) : rf_lt n v := by
  intro a ha
  subst ha
  have h2 : (Nat.blt a n || Nat.ble 1000000 a) = true := h
  rcases Bool.or_eq_true _ _ |>.mp h2 with q | q
  · exact Or.inl (Nat.le_of_ble_eq_true q)
  · exact Or.inr (Nat.le_of_ble_eq_true q)
theorem rl_ok {n m : Nat} {L : List (Nat × Value)} (h : L.all (fun q => rf_b n q.2) = true) (hm : n ≤ m) : ∀ q ∈ L, rf_lt m q.2 := fun q hq a ha => (rf_ok (List.all_eq_true.mp h q hq) a ha).imp (fun z => Nat.lt_of_lt_of_le z hm) id
theorem rs_ok {n m : Nat} {st : List Value} (h : st.all (rf_b n) = true) (hm : n ≤ m) : ∀ v ∈ st, rf_lt m v := fun v hq a ha => (rf_ok (List.all_eq_true.mp h v hq) a ha).imp (fun z => Nat.lt_of_lt_of_le z hm) id
theorem ly_new {B : List Ly} {h : PH} {N : Nat} {y : Ly} (hN : (B ++ h.2.2.2).length = N) : (B ++ (ph_n h N y).2.2.2)[N]? = some y := by
  show (B ++ (h.2.2.2 ++ [y]))[N]? = some y
  rw [← List.append_assoc, List.getElem?_append_right (by omega), hN]
  simp
theorem ly_old {B : List Ly} {h : PH} {N k : Nat} {y z : Ly} (hk : (B ++ h.2.2.2)[k]? = some z) : (B ++ (ph_n h N y).2.2.2)[k]? = some z := by
  show (B ++ (h.2.2.2 ++ [y]))[k]? = some z
  rw [← List.append_assoc, List.getElem?_append_left (List.getElem?_eq_some_iff.mp hk).1]
  exact hk
theorem ly_len {B : List Ly} {h : PH} {N : Nat} {y : Ly} (hN : (B ++ h.2.2.2).length = N) : (B ++ (ph_n h N y).2.2.2).length = N + 1 := by
  show (B ++ (h.2.2.2 ++ [y])).length = N + 1
  rw [← List.append_assoc, List.length_append, hN]
  rfl
def rm_a (d mc ms : Nat) : Room := { frames := d, cells := mc, slots := ms, locals := 41 * d }
def gn_y {β : Type} (n : Int32) (b : Nat) (k : Option β) : Option β := if n < 0 ∨ b < n.toNatClampNeg then none else k
theorem gn_e {β : Type} {n : Int32} {b : Nat} {k : Option β} {x : β} (h : gn_y n b k = some x) : (¬ n < 0 ∧ n.toNatClampNeg ≤ b) ∧ k = some x := by
  unfold gn_y at h
  split at h
  · cases h
  · next hn => exact ⟨⟨fun q => hn (Or.inl q), Nat.not_lt.mp (fun q => hn (Or.inr q))⟩, h⟩
def gs_y {β : Type} (n : Nat) (k : Option β) : Option β := if n < 900000 then k else none
theorem gs_e {β : Type} {n : Nat} {k : Option β} {x : β} (h : gs_y n k = some x) : n < 900000 ∧ k = some x := by
  unfold gs_y at h
  split at h
  · next hn => exact ⟨hn, h⟩
  · cases h
/-- the law's script: the number 1000000 stands for its cell -/
def cx_S (C : GC) (Ln : Nat) (xs : Nat → Int32) : Prop := match C with
  | (_, _, _, _, s, _, _, _, _, _, _, _, A, _, AR, _) => ∃ b : Nat, (∀ ad : Nat → Nat, AR ad → ad 1000000 = b) ∧ va_X b Ln xs s s.heap ∧ b < s.heap.size ∧ ¬ A b
section GS
variable {C : GC} {cc : ByteArray} {nL : Nat} {Ts : List Cond} {own : String} {ret : Option FieldType} {R : Room} {B : List Ly} {ce sl pc : Nat} {L : List (Nat × Value)} {st : List Value} {h : PH} {Ln : Nat} {xs : Nat → Int32}
theorem go_sld (hC : Cx C cc nL Ts own ret R) (hX : cx_S C Ln xs) {i : Int32} (hi : vp_in i Ln) (hdg : decode cc pc = .ok (.iaload, 1)) (kk : Go B C ce sl (pc + 1) L (.int (xs i.toNatClampNeg) :: st) h) : Go B C ce sl pc L (.int i :: .ref 1000000 :: st) h := by
  obtain ⟨p, l, e, R0, s, m, args, below, meth, c, D, cy, A, nL0, AR, Q⟩ := C
  obtain ⟨h1, h2', h3, h4, h5, h6, h7, h8, h9, h10, h11⟩ := hC
  obtain ⟨b, hb, hx, hbl, hbA⟩ := hX
  intro ad H locs ls ha hW hS hl
  have e0 := hb ad ha
  show W p l e R0 s m args below meth c H locs ce sl Q (F0 m pc ls (.int i :: .ref (ad 1000000) :: st.map (pv_c ad)))
  rw [e0]
  exact va_sld h1 h2' hx hbl hbA hS hi hdg (kk ad H locs ls ha hW hS hl)
theorem go_slen (hC : Cx C cc nL Ts own ret R) (hX : cx_S C Ln xs) (hdg : decode cc pc = .ok (.arraylength, 1)) (kk : Go B C ce sl (pc + 1) L (.int (Int32.ofNat Ln) :: st) h) : Go B C ce sl pc L (.ref 1000000 :: st) h := by
  obtain ⟨p, l, e, R0, s, m, args, below, meth, c, D, cy, A, nL0, AR, Q⟩ := C
  obtain ⟨h1, h2', h3, h4, h5, h6, h7, h8, h9, h10, h11⟩ := hC
  obtain ⟨b, hb, hx, hbl, hbA⟩ := hX
  intro ad H locs ls ha hW hS hl
  have e0 := hb ad ha
  show W p l e R0 s m args below meth c H locs ce sl Q (F0 m pc ls (.ref (ad 1000000) :: st.map (pv_c ad)))
  rw [e0]
  exact va_slen h1 h2' hx hbl hbA hS hdg (kk ad H locs ls ha hW hS hl)
end GS
