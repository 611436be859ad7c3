/-! CONTRACTS over the pure heap: from the heap h, with the arguments As, the method returns r, and the heap is h2 -/
def cq_P (D : va_G) (cy : Nat → ClassId) (B : List Ly) (ad : Nat → Nat) (h : PH) (sz : Nat) (As : List Value) : Array Value → State → Prop := va_Pc (As.map (pv_c ad)) (fun U => U.heap.size = sz ∧ wd_P D cy (fun _ => True) B ad h U.heap ∧ kz_P D cy U)
def cq_Q (D : va_G) (cy : Nat → ClassId) (B : List Ly) (ad : Nat → Nat) (h : PH) (sz : Nat) (r : Option Value) (h2 : PH) : Array Value → State → Outcome → State → Prop := fun _ st oc t => (oc = .returned (r.map (pv_c ad)) ∧ wd_P D cy (va_A (wl_s cy ad B h) sz) B ad h2 t.heap) ∧ va_F (va_A (wl_s cy ad B h) sz) st t
def Con (y : MethodName) (ws : List Cond) (rm : Room) (B : List Ly) (As : List Value) (h : PH) (r : Option Value) (h2 : PH) : Prop :=
  ∀ (l : Launch) (D : va_G) (cy : Nat → ClassId) (ad : Nat → Nat) (sz : Nat), Met l y ws rm (cq_P D cy B ad h sz As) (cq_Q D cy B ad h sz r h2) 0 0 (va_A (wl_s cy ad B h) sz)
theorem cq_blind (D : va_G) (cy : Nat → ClassId) (B : List Ly) (ad : Nat → Nat) (h : PH) (sz : Nat) (As : List Value) : FrameBlind (cq_P D cy B ad h sz As) := by
  intro a U g mk q
  obtain ⟨q0, q1, q2, q3⟩ := q
  exact ⟨q0, q1, q2, kz_S (U := U.calling g mk a) rfl q3⟩
theorem lg_len (ad : Nat → Nat) : ∀ vs : List Value, (lg_sl (vs.map (pv_c ad))).length = (lg_sl vs).length
  | [] => rfl
  | v :: vs => by
    have ih := lg_len ad vs
    simp only [lg_sl, List.map_cons, List.flatMap_cons, List.length_append, pv_cat] at ih ⊢
    rw [ih]
    congr 1
    split <;> rfl
/-- the body of a contract, whatever it returns: 'fin' is the goal at the return -/
theorem con_w {y : MethodName} {ws ws' : List Cond} {rm : Room} {B : List Ly} {As : List Value} {h h2 : PH} {r : Option Value} {cc : ByteArray} {nL : Nat} {ret : Option FieldType} (hy : plainName y.cls = true) (hw : ws = Cond.code y cc nL ret :: ws') (hlen : (lg_sl As).length ≤ nL)
    (fin : GC → Prop)
    (hfin : ∀ (p : Program) (l : Launch) (e : Env) (s : State) (m : MethodId) (args : Array Value) (below : List Frame) (meth : Method) (c : Code) (D : va_G) (cy : Nat → ClassId) (ad : Nat → Nat), p.tables.exec = Jvm.exec → c.code = cc → meth.sig.returnType = ret → meth.locks = false → fin (p, l, e, rm, s, m, args, below, meth, c, D, cy, va_A (wl_s cy ad B h) s.heap.size, nL, (fun ad2 => ad2 = ad), MQ below (cq_Q D cy B ad h s.heap.size r h2) args s 0 0 (va_A (wl_s cy ad B h) s.heap.size)))
    (body : ∀ C : GC, Cx C cc nL ws y.cls ret rm → fin C → Go B C 0 0 0 (lv_args 0 As) [] h) : Con y ws rm B As h r h2 := by
  intro l D cy ad sz
  refine Met.ofW (cc := cc) (maxL := nL) (ret := ret) hy hw ?_
  intro p e s m args below meth c s₁ Bd hml hv
  obtain ⟨hav, hsz, ⟨hP, hD0⟩, hK⟩ := hv
  subst hsz
  subst hav
  have hD := hD0.self (sz := s.heap.size)
  have hA : ∀ q : Nat, s.heap.size ≤ q → va_A (wl_s cy ad B h) s.heap.size q := fun q hq => Or.inr hq
  have hl := lv_entry (As.map (pv_c ad)) (n := nL) (by rw [lg_len]; exact hlen)
  rw [lg_entry_eq]
  rw [lc_args] at hl
  exact body (p, l, e, rm, s, m, (As.map (pv_c ad)).toArray, below, meth, c, D, cy, va_A (wl_s cy ad B h) s.heap.size, nL, (fun ad2 => ad2 = ad), MQ below (cq_Q D cy B ad h s.heap.size r h2) (As.map (pv_c ad)).toArray s 0 0 (va_A (wl_s cy ad B h) s.heap.size)) ⟨Bd.exec, Bd.bytes, hml, rfl, rfl, findClass_of_methodNamed Bd.named, atoms_spec Bd.pre, hK, Bd.returns, Bd.notSynchronized, hA⟩ (hfin p l e s m _ below meth c D cy ad Bd.exec Bd.bytes Bd.returns Bd.notSynchronized) ad s.heap [] _ rfl ⟨hP, hD⟩ va_S.rf hl
theorem con_i {y : MethodName} {ws ws' : List Cond} {rm : Room} {B : List Ly} {As : List Value} {h h2 : PH} {r : Int32} {cc : ByteArray} {nL : Nat} {ty : FieldType} (hy : plainName y.cls = true) (hw : ws = Cond.code y cc nL (some ty) :: ws') (hlen : (lg_sl As).length ≤ nL)
    (body : ∀ C : GC, Cx C cc nL ws y.cls (some ty) rm → (∀ (pc : Nat) (L : List (Nat × Value)), narrow ty (.int r) = .int r → decode cc pc = .ok (.ireturn, 1) → Go B C 0 0 pc L [.int r] h2) → Go B C 0 0 0 (lv_args 0 As) [] h) : Con y ws rm B As h (some (.int r)) h2 := by
  refine con_w hy hw hlen _ ?_ body
  intro p l e s m args below meth c D cy ad hx hb hr hlocks pc L hn hdg ad2 H locs ls h3 hW hS hl
  cases h3
  exact W.zret hx hb hr hn (fun t ht hWm => ⟨⟨rfl, ⟨by rw [ht]; exact hW.1, hW.2⟩⟩, hS.F ht⟩) hS.2.2 hdg
theorem con_l {y : MethodName} {ws ws' : List Cond} {rm : Room} {B : List Ly} {As : List Value} {h h2 : PH} {r : Int64} {cc : ByteArray} {nL : Nat} (hy : plainName y.cls = true) (hw : ws = Cond.code y cc nL (some .long) :: ws') (hlen : (lg_sl As).length ≤ nL)
    (body : ∀ C : GC, Cx C cc nL ws y.cls (some .long) rm → (∀ (pc : Nat) (L : List (Nat × Value)), decode cc pc = .ok (.lreturn, 1) → Go B C 0 0 pc L [.long r] h2) → Go B C 0 0 0 (lv_args 0 As) [] h) : Con y ws rm B As h (some (.long r)) h2 := by
  refine con_w hy hw hlen _ ?_ body
  intro p l e s m args below meth c D cy ad hx hb hr hlocks pc L hdg ad2 H locs ls h3 hW hS hl
  cases h3
  exact W.lret hx hb hr (fun t ht hWm => ⟨⟨rfl, ⟨by rw [ht]; exact hW.1, hW.2⟩⟩, hS.F ht⟩) hS.2.2 hdg
theorem con_v {y : MethodName} {ws ws' : List Cond} {rm : Room} {B : List Ly} {As : List Value} {h h2 : PH} {cc : ByteArray} {nL : Nat} (hy : plainName y.cls = true) (hw : ws = Cond.code y cc nL none :: ws') (hlen : (lg_sl As).length ≤ nL)
    (body : ∀ C : GC, Cx C cc nL ws y.cls none rm → (∀ (pc : Nat) (L : List (Nat × Value)), decode cc pc = .ok (.return_, 1) → Go B C 0 0 pc L [] h2) → Go B C 0 0 0 (lv_args 0 As) [] h) : Con y ws rm B As h none h2 := by
  refine con_w hy hw hlen _ ?_ body
  intro p l e s m args below meth c D cy ad hx hb hr hlocks pc L hdg ad2 H locs ls h3 hW hS hl
  cases h3
  exact W.vret hx hb hr (fun t ht hWm => ⟨⟨rfl, ⟨by rw [ht]; exact hW.1, hW.2⟩⟩, hS.F ht⟩) hS.2.2 hdg
def rv_o (r : Option Nat) : Value := match r with
  | none => .null
  | some a => .ref a
theorem con_r {y : MethodName} {ws ws' : List Cond} {rm : Room} {B : List Ly} {As : List Value} {h h2 : PH} {r : Option Nat} {cc : ByteArray} {nL : Nat} {Cn : String} (hy : plainName y.cls = true) (hw : ws = Cond.code y cc nL (some (.object Cn)) :: ws') (hlen : (lg_sl As).length ≤ nL)
    (body : ∀ C : GC, Cx C cc nL ws y.cls (some (.object Cn)) rm → (∀ (pc : Nat) (L : List (Nat × Value)), decode cc pc = .ok (.areturn, 1) → Go B C 0 0 pc L [rv_o r] h2) → Go B C 0 0 0 (lv_args 0 As) [] h) : Con y ws rm B As h (some (rv_o r)) h2 := by
  refine con_w hy hw hlen _ ?_ body
  intro p l e s m args below meth c D cy ad hx hb hr hlocks pc L hdg ad2 H locs ls h3 hW hS hl
  cases h3
  exact W.aret hx hb hr (Or.inl ⟨_, rfl⟩) (by cases r with | none => exact Or.inl rfl | some a => exact Or.inr ⟨_, rfl⟩) (fun t ht hWm => ⟨⟨rfl, ⟨by rw [ht]; exact hW.1, hW.2⟩⟩, hS.F ht⟩) hS.2.2 hdg
section GC2
variable {p : Program} {l : Launch} {e : Env} {R : Room} {s : State} {m : MethodId} {args : Array Value} {below : List Frame} {meth : Method} {c : Code} {H : Heap} {locs : List Loc} {ce sl pc : Nat} {Q : State → Prop} {ls : Array Slot}
theorem cg_F {cy : Nat → ClassId} {A : Nat → Prop} {B : List Ly} {ad : Nat → Nat} {h : PH} (hD : va_D A (wl_s cy ad B h)) (hS : va_S A s.heap H locs) (hA : ∀ q, s.heap.size ≤ q → A q) : ∀ q, va_A (wl_s cy ad B h) H.size q → A q := by
  intro q hq
  rcases hq with ⟨k, e, hk⟩ | hq
  · exact hD.2 k (q, e) hk
  · exact hA q (Nat.le_trans hS.1 hq)
theorem cg_W {D : va_G} {cy : Nat → ClassId} {A : Nat → Prop} {B : List Ly} {ad : Nat → Nat} {h h2 : PH} {r : Option Value} {rest st0 : List Value} {a : Array Value} (hr : va_Run p l e R s m args below meth c H locs ce sl 0 0 (F0 m pc ls st0) rest (cq_Q D cy B ad h H.size r h2 a) (va_A (wl_s cy ad B h) H.size)) (hS : va_S A s.heap H locs) (hF : ∀ q, va_A (wl_s cy ad B h) H.size q → A q)
    (kk : ∀ (H1 : Heap) (locs1 : List Loc), wd_P D cy A B ad h2 H1 → va_S A s.heap H1 locs1 → W p l e R s m args below meth c H1 locs1 ce sl Q (F0 m (pc + 3) ls ((r.map (pv_c ad)).toList ++ rest))) : W p l e R s m args below meth c H locs ce sl Q (F0 m pc ls st0) := by
  intro T hT X
  obtain ⟨v, st₀, t, T', L, h0, X', hL, e1, e2, ⟨⟨hv, hWd⟩, hz, hk⟩, stp⟩ := hr T hT X
  cases hv
  rw [h0] at hz hk
  obtain ⟨t2, a1, b1⟩ := kk T'.heap (locs ++ L) ⟨by rw [e1]; exact hWd.1, hWd.2.weaken (fun _ q _ hq => hF q.1 hq)⟩ ⟨Nat.le_trans hS.1 (by rw [e1]; exact hz), fun q g1 g2 => by rw [e1, hk q (Nat.lt_of_lt_of_le g1 hS.1) (fun z => g2 (hF q z))]; exact hS.2.1 q g1 g2, fun q hq => by
      rcases List.mem_append.mp hq with g | g
      · exact hS.2.2 q g
      · exact hF _ (hL q g)⟩ T' rfl X'
  exact ⟨t2, stp t2 a1, b1⟩
end GC2
theorem cg_st {ad : Nat → Nat} {r : Option Value} {st : List Value} : (r.map (pv_c ad)).toList ++ st.map (pv_c ad) = (r.toList ++ st).map (pv_c ad) := by cases r <;> rfl
section GR2
variable {C : GC} {cc : ByteArray} {nL : Nat} {Ts : List Cond} {own : String} {ret : Option FieldType} {R : Room} {B : List Ly} {ce sl pc : Nat} {L : List (Nat × Value)} {st : List Value} {h : PH}
variable {y x : MethodName} {ws ws' : List Cond} {rm : Room} {As st0 : List Value} {r : Option Value} {h2 : PH} {k ci idx n N maxL : Nat} {bytes : ByteArray} {rt : Option FieldType} {ks : List (Nat × Nat)} {Cn owner : String} {T : u_T}
theorem go_callV (hC : Cx C cc nL Ts own ret R) (hM : Con y ws rm B (.ref k :: As) h r h2) (hG : GoodIn Ts (wsV own idx Cn y ws)) (hw : ws = Cond.code y bytes maxL rt :: ws') (hrc : rm.cells = 0 ∧ rm.slots = 0) (n : Nat) (hd : y.cls = Cn ∧ y.cls ≠ "java/lang/invoke/MethodHandle" ∧ y.cls ≠ "java/lang/invoke/VarHandle" ∧ (parseMethodDescriptor y.desc).map (fun d => d.parameters.length) = some n) (hR : rm.frames + 1 ≤ R.frames ∧ 8 + (maxL + 11) + rm.locals ≤ R.locals) (hB : (B ++ h.2.2.2)[k]? = some (.inr (ci, ks))) (hcl : vwCl[ci]? = some (Cn, T, N)) (hn : As.length = n) (hst : st0 = As.reverse ++ .ref k :: st) {st1 : List Value} (hst1 : r.toList ++ st = st1) (hsum : (st.map fun v => v.category).sum ≤ 8) (hce : ce ≤ R.cells ∧ sl ≤ R.slots) (hdg : decode cc pc = .ok (.invokevirtual idx, 3)) (kk : Go B C ce sl (pc + 3) L st1 h2) : Go B C ce sl pc L st0 h := by
  obtain ⟨p, l, e, R0, s, m, args, below, meth, c, D, cy, A, nL0, AR, Q⟩ := C
  obtain ⟨h1, h2', h3, h4, h5, h6, h7, h8, h9, h10, h11⟩ := hC
  subst h4
  subst h5
  subst hst
  intro ad H locs ls ha hW hS hl
  refine cg_W (rest := st.map (pv_c ad)) (va_runV (g := F0 m pc ls _) (b := ad k) (As := As.map (pv_c ad)) (rest := st.map (pv_c ad)) ⟨h1, h2', h3, h6, h7⟩ (hM l D cy ad H.size) (cwV n h7 hG hw hrc.1 hrc.2 hd hR) ⟨cq_blind D cy B ad h H.size _, va_recv h8.1 hW.1 hcl (wl_get hB), fun U hU hWm => ⟨rfl, by rw [hU], ⟨by rw [hU]; exact hW.1, hW.2.weaken (fun _ _ _ _ => trivial)⟩, kz_W hWm h8⟩⟩ rfl (by rw [List.length_map]; exact hn) hl.1 (by simp [pv_c]) (lv_room (by rw [pv_sum]; exact hsum)) hdg hce) hS (cg_F hW.2 hS h11) (fun H1 locs1 hW1 hS1 => ?_)
  rw [cg_st, hst1]
  exact kk ad H1 locs1 ls ha hW1 hS1 hl
theorem go_callS (hC : Cx C cc nL Ts own ret R) (hM : Con y ws rm B As h r h2) (hG : GoodIn Ts (va_wsS own idx y ws)) (hw : ws = Cond.code y bytes maxL rt :: ws') (hrc : rm.cells = 0 ∧ rm.slots = 0) (n : Nat) (hd : y.cls ≠ "java/lang/invoke/MethodHandle" ∧ y.cls ≠ "java/lang/invoke/VarHandle" ∧ (parseMethodDescriptor y.desc).map (fun d => d.parameters.length) = some n) (hR : rm.frames + 1 ≤ R.frames ∧ 8 + (maxL + 11) + rm.locals ≤ R.locals) (hn : As.length = n) (hst : st0 = As.reverse ++ st) {st1 : List Value} (hst1 : r.toList ++ st = st1) (hsum : (st.map fun v => v.category).sum ≤ 8) (hce : ce ≤ R.cells ∧ sl ≤ R.slots) (hdg : decode cc pc = .ok (.invokestatic idx, 3)) (kk : Go B C ce sl (pc + 3) L st1 h2) : Go B C ce sl pc L st0 h := by
  obtain ⟨p, l, e, R0, s, m, args, below, meth, c, D, cy, A, nL0, AR, Q⟩ := C
  obtain ⟨h1, h2', h3, h4, h5, h6, h7, h8, h9, h10, h11⟩ := hC
  subst h4
  subst h5
  subst hst
  intro ad H locs ls ha hW hS hl
  refine cg_W (rest := st.map (pv_c ad)) (va_runS (g := F0 m pc ls _) (As := As.map (pv_c ad)) (rest := st.map (pv_c ad)) ⟨h1, h2', h3, h6, h7⟩ (hM l D cy ad H.size) (va_cwS n h7 hG hw hrc.1 hrc.2 hd hR) ⟨cq_blind D cy B ad h H.size _, fun U hU hWm => ⟨rfl, by rw [hU], ⟨by rw [hU]; exact hW.1, hW.2.weaken (fun _ _ _ _ => trivial)⟩, kz_W hWm h8⟩⟩ rfl (by rw [List.length_map]; exact hn) hl.1 (by simp) (lv_room (by rw [pv_sum]; exact hsum)) hdg hce) hS (cg_F hW.2 hS h11) (fun H1 locs1 hW1 hS1 => ?_)
  rw [cg_st, hst1]
  exact kk ad H1 locs1 ls ha hW1 hS1 hl
theorem go_callU (hC : Cx C cc nL Ts own ret R) (hM : Con y ws rm B (.ref k :: As) h r h2) (hG : GoodIn Ts (va_wsU own idx Cn owner x y ws)) (hw : ws = Cond.code y bytes maxL rt :: ws') (hrc : rm.cells = 0 ∧ rm.slots = 0) (hyx : y = ⟨owner, x.name, x.desc⟩) (n : Nat) (hd : owner ≠ "java/lang/invoke/MethodHandle" ∧ owner ≠ "java/lang/invoke/VarHandle" ∧ (parseMethodDescriptor x.desc).map (fun d => d.parameters.length) = some n) (hR : rm.frames + 1 ≤ R.frames ∧ 8 + (maxL + 11) + rm.locals ≤ R.locals) (hB : (B ++ h.2.2.2)[k]? = some (.inr (ci, ks))) (hcl : vwCl[ci]? = some (Cn, T, N)) (hn : As.length = n) (hst : st0 = As.reverse ++ .ref k :: st) {st1 : List Value} (hst1 : r.toList ++ st = st1) (hsum : (st.map fun v => v.category).sum ≤ 8) (hce : ce ≤ R.cells ∧ sl ≤ R.slots) (hdg : decode cc pc = .ok (.invokevirtual idx, 3)) (kk : Go B C ce sl (pc + 3) L st1 h2) : Go B C ce sl pc L st0 h := by
  obtain ⟨p, l, e, R0, s, m, args, below, meth, c, D, cy, A, nL0, AR, Q⟩ := C
  obtain ⟨h1, h2', h3, h4, h5, h6, h7, h8, h9, h10, h11⟩ := hC
  subst h4
  subst h5
  subst hst
  intro ad H locs ls ha hW hS hl
  refine cg_W (rest := st.map (pv_c ad)) (va_runU (g := F0 m pc ls _) (b := ad k) (As := As.map (pv_c ad)) (rest := st.map (pv_c ad)) ⟨h1, h2', h3, h6, h7⟩ (hM l D cy ad H.size) (va_cwU n h7 hG hw hrc.1 hrc.2 hyx hd hR) ⟨cq_blind D cy B ad h H.size _, va_recv h8.1 hW.1 hcl (wl_get hB), fun U hU hWm => ⟨rfl, by rw [hU], ⟨by rw [hU]; exact hW.1, hW.2.weaken (fun _ _ _ _ => trivial)⟩, kz_W hWm h8⟩⟩ rfl (by rw [List.length_map]; exact hn) hl.1 (by simp [pv_c]) (lv_room (by rw [pv_sum]; exact hsum)) hdg hce) hS (cg_F hW.2 hS h11) (fun H1 locs1 hW1 hS1 => ?_)
  rw [cg_st, hst1]
  exact kk ad H1 locs1 ls ha hW1 hS1 hl
theorem go_callO (hC : Cx C cc nL Ts own ret R) (hM : Con y ws rm B (.ref k :: As) h r h2) (hG : GoodIn Ts (va_wsO own idx Cn owner x y ws)) (hw : ws = Cond.code y bytes maxL rt :: ws') (hrc : rm.cells = 0 ∧ rm.slots = 0) {b0 : ByteArray} {m0 : Nat} {r0 : Option FieldType} (h0 : Cond.code ⟨owner, x.name, x.desc⟩ b0 m0 r0 ∈ Ts) (n : Nat) (hd : owner ≠ "java/lang/invoke/MethodHandle" ∧ owner ≠ "java/lang/invoke/VarHandle" ∧ (parseMethodDescriptor x.desc).map (fun d => d.parameters.length) = some n) (hR : rm.frames + 1 ≤ R.frames ∧ 8 + (maxL + 11) + rm.locals ≤ R.locals) (hB : (B ++ h.2.2.2)[k]? = some (.inr (ci, ks))) (hcl : vwCl[ci]? = some (Cn, T, N)) (hn : As.length = n) (hst : st0 = As.reverse ++ .ref k :: st) {st1 : List Value} (hst1 : r.toList ++ st = st1) (hsum : (st.map fun v => v.category).sum ≤ 8) (hce : ce ≤ R.cells ∧ sl ≤ R.slots) (hdg : decode cc pc = .ok (.invokevirtual idx, 3)) (kk : Go B C ce sl (pc + 3) L st1 h2) : Go B C ce sl pc L st0 h := by
  obtain ⟨p, l, e, R0, s, m, args, below, meth, c, D, cy, A, nL0, AR, Q⟩ := C
  obtain ⟨h1, h2', h3, h4, h5, h6, h7, h8, h9, h10, h11⟩ := hC
  subst h4
  subst h5
  subst hst
  intro ad H locs ls ha hW hS hl
  refine cg_W (rest := st.map (pv_c ad)) (va_runU (g := F0 m pc ls _) (b := ad k) (As := As.map (pv_c ad)) (rest := st.map (pv_c ad)) ⟨h1, h2', h3, h6, h7⟩ (hM l D cy ad H.size) (va_cwO n h7 hG hw hrc.1 hrc.2 h0 hd hR) ⟨cq_blind D cy B ad h H.size _, va_recv h8.1 hW.1 hcl (wl_get hB), fun U hU hWm => ⟨rfl, by rw [hU], ⟨by rw [hU]; exact hW.1, hW.2.weaken (fun _ _ _ _ => trivial)⟩, kz_W hWm h8⟩⟩ rfl (by rw [List.length_map]; exact hn) hl.1 (by simp [pv_c]) (lv_room (by rw [pv_sum]; exact hsum)) hdg hce) hS (cg_F hW.2 hS h11) (fun H1 locs1 hW1 hS1 => ?_)
  rw [cg_st, hst1]
  exact kk ad H1 locs1 ls ha hW1 hS1 hl
theorem go_callSU (hC : Cx C cc nL Ts own ret R) (hM : Con y ws rm B (.ref k :: As) h r h2) (hG : GoodIn Ts (va_wsSU own idx y ws)) (hw : ws = Cond.code y bytes maxL rt :: ws') (hrc : rm.cells = 0 ∧ rm.slots = 0) (n : Nat) (hd : y.name ≠ "<init>" ∧ (parseMethodDescriptor y.desc).map (fun d => d.parameters.length) = some n) (hR : rm.frames + 1 ≤ R.frames ∧ 8 + (maxL + 11) + rm.locals ≤ R.locals) (hB : (B ++ h.2.2.2)[k]? = some (.inr (ci, ks))) (hcl : vwCl[ci]? = some (Cn, T, N)) (hn : As.length = n) (hst : st0 = As.reverse ++ .ref k :: st) {st1 : List Value} (hst1 : r.toList ++ st = st1) (hsum : (st.map fun v => v.category).sum ≤ 8) (hce : ce ≤ R.cells ∧ sl ≤ R.slots) (hdg : decode cc pc = .ok (.invokespecial idx, 3)) (kk : Go B C ce sl (pc + 3) L st1 h2) : Go B C ce sl pc L st0 h := by
  obtain ⟨p, l, e, R0, s, m, args, below, meth, c, D, cy, A, nL0, AR, Q⟩ := C
  obtain ⟨h1, h2', h3, h4, h5, h6, h7, h8, h9, h10, h11⟩ := hC
  subst h4
  subst h5
  subst hst
  intro ad H locs ls ha hW hS hl
  have hat := (h8.1.1 ci _ hcl).2
  refine cg_W (rest := st.map (pv_c ad)) (va_runSU (g := F0 m pc ls _) (b := ad k) (As := As.map (pv_c ad)) (rest := st.map (pv_c ad)) hat ⟨h1, h2', h3, h6, h7⟩ (hM l D cy ad H.size) (va_cwSU n h7 hG hw hrc.1 hrc.2 hd hR) ⟨cq_blind D cy B ad h H.size _, va_recv h8.1 hW.1 hcl (wl_get hB), fun U hU hWm => ⟨rfl, by rw [hU], ⟨by rw [hU]; exact hW.1, hW.2.weaken (fun _ _ _ _ => trivial)⟩, kz_W hWm h8⟩⟩ rfl (by rw [List.length_map]; exact hn) hl.1 (by simp [pv_c]) (lv_room (by rw [pv_sum]; exact hsum)) hdg hce) hS (cg_F hW.2 hS h11) (fun H1 locs1 hW1 hS1 => ?_)
  rw [cg_st, hst1]
  exact kk ad H1 locs1 ls ha hW1 hS1 hl
/-! Math's own, arraycopy, the ways' row, instanceof -/
theorem go_min (hC : Cx C cc nL Ts own ret R) {a b : Int32} (hw1 : Cond.methodLink own idx Lib.Math.min.name ∈ Ts) (hw2 : Cond.static Lib.Math.min.name ∈ Ts) (hw3 : Cond.initialized "java/lang/Math" ∈ Ts) (hw4 : Cond.code Lib.Math.min.name Lib.Math.min.code 2 (some .int) ∈ Ts) (hR : 1 ≤ R.frames ∧ (st.map fun v => v.category).sum + 13 ≤ R.locals) (hce : ce ≤ R.cells ∧ sl ≤ R.slots) (hdg : decode cc pc = .ok (.invokestatic idx, 3)) (kk : Go B C ce sl (pc + 3) L (.int (if b < a then b else a) :: st) h) : Go B C ce sl pc L (.int b :: .int a :: st) h := by
  obtain ⟨p, l, e, R0, s, m, args, below, meth, c, D, cy, A, nL0, AR, Q⟩ := C
  obtain ⟨h1, h2', h3, h4, h5, h6, h7, h8, h9, h10, h11⟩ := hC
  subst h4
  subst h5
  intro ad H locs ls ha hW hS hl
  exact va_mmin h1 h2' (h3.trans hl.1.symm) h6 (h7 _ hw1) (h7 _ hw2) (h7 _ hw3) (h7 _ hw4) hR.1 (by rw [pv_sum]; exact hR.2) hce.1 hce.2 hdg (kk ad H locs ls ha hW hS hl)
theorem go_max (hC : Cx C cc nL Ts own ret R) {a b : Int32} (hw1 : Cond.methodLink own idx Lib.Math.max.name ∈ Ts) (hw2 : Cond.static Lib.Math.max.name ∈ Ts) (hw3 : Cond.initialized "java/lang/Math" ∈ Ts) (hw4 : Cond.code Lib.Math.max.name Lib.Math.max.code 2 (some .int) ∈ Ts) (hR : 1 ≤ R.frames ∧ (st.map fun v => v.category).sum + 13 ≤ R.locals) (hce : ce ≤ R.cells ∧ sl ≤ R.slots) (hdg : decode cc pc = .ok (.invokestatic idx, 3)) (kk : Go B C ce sl (pc + 3) L (.int (if a < b then b else a) :: st) h) : Go B C ce sl pc L (.int b :: .int a :: st) h := by
  obtain ⟨p, l, e, R0, s, m, args, below, meth, c, D, cy, A, nL0, AR, Q⟩ := C
  obtain ⟨h1, h2', h3, h4, h5, h6, h7, h8, h9, h10, h11⟩ := hC
  subst h4
  subst h5
  intro ad H locs ls ha hW hS hl
  exact va_mmax h1 h2' (h3.trans hl.1.symm) h6 (h7 _ hw1) (h7 _ hw2) (h7 _ hw3) (h7 _ hw4) hR.1 (by rw [pv_sum]; exact hR.2) hce.1 hce.2 hdg (kk ad H locs ls ha hW hS hl)
theorem go_absl (hC : Cx C cc nL Ts own ret R) {a : Int64} (hw1 : Cond.methodLink own idx Lib.MathLoose.abs_long.x ∈ Ts) (hw2 : Cond.static Lib.MathLoose.abs_long.x ∈ Ts) (hw3 : Cond.initialized "java/lang/Math" ∈ Ts) (hw4 : Cond.code Lib.MathLoose.abs_long.x Lib.MathLoose.abs_long.code 2 (some .long) ∈ Ts) (hR : 1 ≤ R.frames ∧ (st.map fun v => v.category).sum + 13 ≤ R.locals) (hce : ce ≤ R.cells ∧ sl ≤ R.slots) (hdg : decode cc pc = .ok (.invokestatic idx, 3)) (kk : Go B C ce sl (pc + 3) L (.long (if 0 < a then a else -a) :: st) h) : Go B C ce sl pc L (.long a :: st) h := by
  obtain ⟨p, l, e, R0, s, m, args, below, meth, c, D, cy, A, nL0, AR, Q⟩ := C
  obtain ⟨h1, h2', h3, h4, h5, h6, h7, h8, h9, h10, h11⟩ := hC
  subst h4
  subst h5
  intro ad H locs ls ha hW hS hl
  exact va_mabs_long h1 h2' (h3.trans hl.1.symm) h6 (h7 _ hw1) (h7 _ hw2) (h7 _ hw3) (h7 _ hw4) hR.1 (by rw [pv_sum]; exact hR.2) hce.1 hce.2 hdg (kk ad H locs ls ha hW hS hl)
theorem go_copy (hC : Cx C cc nL Ts own ret R) {k0 k1 n0 n1 : Nat} {sp dp n : Int32} (hB0 : (B ++ h.2.2.2)[k0]? = some (.inl (0, n0))) (hB1 : (B ++ h.2.2.2)[k1]? = some (.inl (0, n1))) (hw1 : Cond.methodLink own idx arraycopyName ∈ Ts) (hw2 : Cond.native arraycopyName ∈ Ts) (hw3 : Cond.static arraycopyName ∈ Ts) (hw4 : Cond.initialized "java/lang/System" ∈ Ts) (g1 : ¬ sp < 0) (g2 : ¬ dp < 0) (g3 : ¬ n < 0) (g4 : sp.toNatClampNeg + n.toNatClampNeg ≤ n0) (g5 : dp.toNatClampNeg + n.toNatClampNeg ≤ n1) (hR : 1 ≤ R.frames ∧ (st.map fun v => v.category).sum + (nativeFrameWords "java/lang/System" "arraycopy" 5 + 11) ≤ R.locals) (hdg : decode cc pc = .ok (.invokestatic idx, 3)) (kk : Go B C ce sl (pc + 3) L st (ph_r h k1 (va_cpy (h.1 k0) (h.1 k1) sp.toNatClampNeg dp.toNatClampNeg n.toNatClampNeg))) : Go B C ce sl pc L (.int n :: .int dp :: .ref k1 :: .int sp :: .ref k0 :: st) h := by
  obtain ⟨p, l, e, R0, s, m, args, below, meth, c, D, cy, A, nL0, AR, Q⟩ := C
  obtain ⟨h1, h2', h3, h4, h5, h6, h7, h8, h9, h10, h11⟩ := hC
  subst h4
  subst h5
  intro ad H locs ls ha hW hS hl
  refine va_copyi (ty := .int) h1 h2' (h3.trans hl.1.symm) h6 (h7 _ hw1) (h7 _ hw2) (h7 _ hw3) (h7 _ hw4) h8.1 hW.1 hW.2 hS k0 k1 0 0 (wl_get hB0) (wl_get hB1) rfl rfl rfl g1 g2 g3 g4 g5 (fun _ _ => rfl) hR.1 (by rw [pv_sum]; exact hR.2) hdg (fun H1 locs1 hP1 hD1 hS1 => ?_)
  have he := wl_setI (cy := cy) (ad := ad) (g := va_cpy (h.1 k0) (h.1 k1) sp.toNatClampNeg dp.toNatClampNeg n.toNatClampNeg) hB1 (e := .inl (cy 0, n1, .inl (va_cpy (h.1 k0) (h.1 k1) sp.toNatClampNeg dp.toNatClampNeg n.toNatClampNeg))) rfl
  rw [he] at hP1 hD1
  exact kk ad H1 locs1 ls ha ⟨hP1, hD1⟩ hS1 hl
theorem va_rf_c (ad : Nat → Nat) (r : Option Nat) : va_rf (r.map ad) = pv_c ad (rv_o r) := by cases r <;> rfl
theorem go_aald (hC : Cx C cc nL Ts own ret R) {i : Int32} (hB : (B ++ h.2.2.2)[k]? = some (.inl (3, n))) (hi : vp_in i n) (hdg : decode cc pc = .ok (.aaload, 1)) (kk : Go B C ce sl (pc + 1) L (rv_o (h.2.2.1 k i.toNatClampNeg) :: st) h) : Go B C ce sl pc L (.int i :: .ref k :: st) h := by
  obtain ⟨p, l, e, R0, s, m, args, below, meth, c, D, cy, A, nL0, AR, Q⟩ := C
  obtain ⟨h1, h2', h3, h4, h5, h6, h7, h8, h9, h10, h11⟩ := hC
  intro ad H locs ls ha hW hS hl
  refine va_aldq (C := "LampWays$Chain") h1 h2' h8.1 hW.1 k 3 (wl_get hB) rfl hi hdg ?_
  rw [va_rf_c]
  exact kk ad H locs ls ha hW hS hl
end GR2
def mo_b {β : Type} (r : Option Nat) (a : Option β) (k : Nat → Option β) : Option β := match r with
  | none => a
  | some o => k o
theorem mo_e {β : Type} {r : Option Nat} {a : Option β} {k : Nat → Option β} {x : β} (h : mo_b r a k = some x) : (r = none ∧ a = some x) ∨ ∃ o, r = some o ∧ k o = some x := by
  cases r with
  | none => exact Or.inl ⟨rfl, h⟩
  | some o => exact Or.inr ⟨o, rfl, h⟩
/-- the heap's cells are those of before -/
def gl_y {β : Type} (h h1 : PH) (k : Option β) : Option β := if h1.2.2.2 = h.2.2.2 then k else none
theorem gl_e {β : Type} {h h1 : PH} {k : Option β} {x : β} (hk : gl_y h h1 k = some x) : h1.2.2.2 = h.2.2.2 ∧ k = some x := by
  unfold gl_y at hk
  split at hk
  · next hn => exact ⟨hn, hk⟩
  · cases hk
section GR3
variable {C : GC} {cc : ByteArray} {nL : Nat} {Ts : List Cond} {own : String} {ret : Option FieldType} {R : Room} {B : List Ly} {ce sl pc : Nat} {L : List (Nat × Value)} {st : List Value} {h : PH}
theorem go_topi {x v : Int32} (hv : v = x) (kk : Go B C ce sl pc L (.int v :: st) h) : Go B C ce sl pc L (.int x :: st) h := by subst hv; exact kk
theorem go_topl {x v : Int64} (hv : v = x) (kk : Go B C ce sl pc L (.long v :: st) h) : Go B C ce sl pc L (.long x :: st) h := by subst hv; exact kk
theorem go_toph {h1 : PH} (hv : h1 = h) (kk : Go B C ce sl pc L st h1) : Go B C ce sl pc L st h := by subst hv; exact kk
theorem go_topn {x : Option Nat} (hv : x = none) (kk : Go B C ce sl pc L (.null :: st) h) : Go B C ce sl pc L (rv_o x :: st) h := by subst hv; exact kk
theorem go_tops {x : Option Nat} {o : Nat} (hv : x = some o) (kk : Go B C ce sl pc L (.ref o :: st) h) : Go B C ce sl pc L (rv_o x :: st) h := by subst hv; exact kk
theorem va_up_map (ad : Nat → Nat) (f : Nat → Option Nat) (j : Nat) (v : Option Nat) : (fun x => ((va_up f j v) x).map ad) = va_up (fun x => (f x).map ad) j (v.map ad) := by
  funext x
  by_cases hx : x = j
  · simp [va_up, hx]
  · simp [va_up, hx]
theorem go_aastN (hC : Cx C cc nL Ts own ret R) {k n : Nat} {i : Int32} (hB : (B ++ h.2.2.2)[k]? = some (.inl (3, n))) (hi : vp_in i n) (hdg : decode cc pc = .ok (.aastore, 1)) (kk : Go B C ce sl (pc + 1) L st (ph_w h k i.toNatClampNeg none)) : Go B C ce sl pc L (.null :: .int i :: .ref k :: st) h := by
  obtain ⟨p, l, e, R0, s, m, args, below, meth, c, D, cy, A, nL0, AR, Q⟩ := C
  obtain ⟨h1, h2', h3, h4, h5, h6, h7, h8, h9, h10, h11⟩ := hC
  intro ad H locs ls ha hW hS hl
  refine va_astqN (C := "LampWays$Chain") h1 h2' h8.1 hW.1 hW.2 hS k 3 (wl_get hB) rfl hi hdg (fun H1 locs1 hP1 hD1 hS1 => ?_)
  have he := wl_setW (cy := cy) (ad := ad) (j0 := i.toNatClampNeg) (v := none) hB (e := .inl (cy 3, n, .inr (.inr (.inr (.inr (va_up (fun x => (h.2.2.1 k x).map ad) i.toNatClampNeg none)))))) (by show Sum.inl (cy 3, n, Sum.inr (Sum.inr (Sum.inr (Sum.inr _)))) = _; rw [va_up_map]; rfl)
  rw [he] at hP1 hD1
  exact kk ad H1 locs1 ls ha ⟨hP1, hD1⟩ hS1 hl
/-- a way comes to the ways' row -/
theorem go_aast (hC : Cx C cc nL Ts own ret R) {k n o ci : Nat} {ks : List (Nat × Nat)} {i : Int32} (hB : (B ++ h.2.2.2)[k]? = some (.inl (3, n))) (hi : vp_in i n) (ho : (B ++ h.2.2.2)[o]? = some (.inr (ci, ks))) (hci : ci = 1 ∨ ci = 7 ∨ ci = 9) (hdg : decode cc pc = .ok (.aastore, 1)) (kk : Go B C ce sl (pc + 1) L st (ph_w h k i.toNatClampNeg (some o))) : Go B C ce sl pc L (.ref o :: .int i :: .ref k :: st) h := by
  obtain ⟨p, l, e, R0, s, m, args, below, meth, c, D, cy, A, nL0, AR, Q⟩ := C
  obtain ⟨h1, h2', h3, h4, h5, h6, h7, h8, h9, h10, h11⟩ := hC
  intro ad H locs ls ha hW hS hl
  have fin : ∀ (H1 : Heap) (locs1 : List Loc), va_P D vwCl ((wl_s cy ad B h).set k (ad k, .inl (cy 3, n, .inr (.inr (.inr (.inr (va_up (fun x => (h.2.2.1 k x).map ad) i.toNatClampNeg (some (ad o))))))))) H1 → va_D A ((wl_s cy ad B h).set k (ad k, .inl (cy 3, n, .inr (.inr (.inr (.inr (va_up (fun x => (h.2.2.1 k x).map ad) i.toNatClampNeg (some (ad o))))))))) → va_S A s.heap H1 locs1 → W p l e R0 s m args below meth c H1 locs1 ce sl Q (F0 m (pc + 1) ls (st.map (pv_c ad))) := by
    intro H1 locs1 hP1 hD1 hS1
    have he := wl_setW (cy := cy) (ad := ad) (j0 := i.toNatClampNeg) (v := some o) hB (e := .inl (cy 3, n, .inr (.inr (.inr (.inr (va_up (fun x => (h.2.2.1 k x).map ad) i.toNatClampNeg (some (ad o)))))))) (by show Sum.inl (cy 3, n, Sum.inr (Sum.inr (Sum.inr (Sum.inr _)))) = _; rw [va_up_map]; rfl)
    rw [he] at hP1 hD1
    exact kk ad H1 locs1 ls ha ⟨hP1, hD1⟩ hS1 hl
  rcases hci with rfl | rfl | rfl
  · exact va_astq h1 h2' h8.1 hW.1 hW.2 hS k 3 o 1 (r := (RX1, TX1, 3)) (wl_get hB) rfl (wl_get ho) rfl hi hdg fin
  · exact va_astqO h1 h2' h8.1 hW.1 hW.2 hS k 3 o 7 (r := (RX7, TX7, 3)) (wl_get hB) rfl h8.2.1 (wl_get ho) rfl hi hdg fin
  · exact va_astqO h1 h2' h8.1 hW.1 hW.2 hS k 3 o 9 (r := (RX9, TX9, 3)) (wl_get hB) rfl h8.2.2.1 (wl_get ho) rfl hi hdg fin
/-- is it a ring, is it a strong one -/
theorem go_isR (hC : Cx C cc nL Ts own ret R) {o ci idx : Nat} {ks : List (Nat × Nat)} (ho : (B ++ h.2.2.2)[o]? = some (.inr (ci, ks))) (hci : ci = 1 ∨ ci = 7 ∨ ci = 9) (hw : Cond.classLink own idx "LampWays$Ring" ∈ Ts) (hdg : decode cc pc = .ok (.instanceof idx, 3)) (kk : Go B C ce sl (pc + 3) L (.int (if ci = 1 then 0 else 1) :: st) h) : Go B C ce sl pc L (.ref o :: st) h := by
  obtain ⟨p, l, e, R0, s, m, args, below, meth, c, D, cy, A, nL0, AR, Q⟩ := C
  obtain ⟨h1, h2', h3, h4, h5, h6, h7, h8, h9, h10, h11⟩ := hC
  intro ad H locs ls ha hW hS hl
  rcases hci with rfl | rfl | rfl
  · exact va_instNo h1 h2' h6 (h7 _ hw) h8.2.2.2.2.1 (va_recv h8.1 hW.1 (ci := 1) rfl (wl_get ho)) hdg (kk ad H locs ls ha hW hS hl)
  · exact va_instS h1 h2' h6 (h7 _ hw) (h8.1.1 7 _ rfl).2 (va_recv h8.1 hW.1 (ci := 7) rfl (wl_get ho)) hdg (kk ad H locs ls ha hW hS hl)
  · exact va_instY h1 h2' h6 (h7 _ hw) h8.2.2.2.1 (va_recv h8.1 hW.1 (ci := 9) rfl (wl_get ho)) hdg (kk ad H locs ls ha hW hS hl)
theorem go_isS (hC : Cx C cc nL Ts own ret R) {o ci idx : Nat} {ks : List (Nat × Nat)} (ho : (B ++ h.2.2.2)[o]? = some (.inr (ci, ks))) (hci : ci = 1 ∨ ci = 7 ∨ ci = 9) (hw : Cond.classLink own idx "LampWays$Strong" ∈ Ts) (hdg : decode cc pc = .ok (.instanceof idx, 3)) (kk : Go B C ce sl (pc + 3) L (.int (if ci = 9 then 1 else 0) :: st) h) : Go B C ce sl pc L (.ref o :: st) h := by
  obtain ⟨p, l, e, R0, s, m, args, below, meth, c, D, cy, A, nL0, AR, Q⟩ := C
  obtain ⟨h1, h2', h3, h4, h5, h6, h7, h8, h9, h10, h11⟩ := hC
  intro ad H locs ls ha hW hS hl
  rcases hci with rfl | rfl | rfl
  · exact va_instNo h1 h2' h6 (h7 _ hw) h8.2.2.2.2.2.1 (va_recv h8.1 hW.1 (ci := 1) rfl (wl_get ho)) hdg (kk ad H locs ls ha hW hS hl)
  · exact va_instNo h1 h2' h6 (h7 _ hw) h8.2.2.2.2.2.2.1 (va_recv h8.1 hW.1 (ci := 7) rfl (wl_get ho)) hdg (kk ad H locs ls ha hW hS hl)
  · exact va_instS h1 h2' h6 (h7 _ hw) (h8.1.1 9 _ rfl).2 (va_recv h8.1 hW.1 (ci := 9) rfl (wl_get ho)) hdg (kk ad H locs ls ha hW hS hl)
/-- the fields of a way, whatever its kind: number and fuse; its row of points -/
theorem go_wayi (hC : Cx C cc nL Ts own ret R) {o ci a idx j : Nat} {nm : String} (ho : (B ++ h.2.2.2)[o]? = some (.inr (ci, [(0, 0), (0, 0), (2, a)]))) (hci : ci = 1 ∨ ci = 7 ∨ ci = 9) (hn1 : ∀ w ∈ wsX10, w ∈ Ts) (hn7 : ∀ w ∈ wsX70, w ∈ Ts) (hn9 : ∀ w ∈ wsX90, w ∈ Ts) (hj : (j = 0 ∧ nm = "number") ∨ (j = 1 ∧ nm = "fuse")) (hw : Cond.fieldLink own idx "LampWays$Chain" nm "I" ∈ Ts) (hdg : decode cc pc = .ok (.getfield idx, 3)) (kk : Go B C ce sl (pc + 3) L (.int (h.1 o j) :: st) h) : Go B C ce sl pc L (.ref o :: st) h := by
  rcases hj with ⟨rfl, rfl⟩ | ⟨rfl, rfl⟩ <;> rcases hci with rfl | rfl | rfl
  · exact go_geti hC (j := 0) ho rfl rfl hn1 (by decide) rfl rfl hw (Or.inl rfl) hdg kk
  · exact go_geti hC (j := 0) ho rfl rfl hn7 (by decide) rfl rfl hw (Or.inl rfl) hdg kk
  · exact go_geti hC (j := 0) ho rfl rfl hn9 (by decide) rfl rfl hw (Or.inl rfl) hdg kk
  · exact go_geti hC (j := 1) ho rfl rfl hn1 (by decide) rfl rfl hw (Or.inl rfl) hdg kk
  · exact go_geti hC (j := 1) ho rfl rfl hn7 (by decide) rfl rfl hw (Or.inl rfl) hdg kk
  · exact go_geti hC (j := 1) ho rfl rfl hn9 (by decide) rfl rfl hw (Or.inl rfl) hdg kk
theorem go_ways (hC : Cx C cc nL Ts own ret R) {o ci a idx : Nat} (ho : (B ++ h.2.2.2)[o]? = some (.inr (ci, [(0, 0), (0, 0), (2, a)]))) (hci : ci = 1 ∨ ci = 7 ∨ ci = 9) (hn1 : ∀ w ∈ wsX10, w ∈ Ts) (hn7 : ∀ w ∈ wsX70, w ∈ Ts) (hn9 : ∀ w ∈ wsX90, w ∈ Ts) (hw : Cond.fieldLink own idx "LampWays$Chain" "stops" "[I" ∈ Ts) (hz : ¬ h.1 o 2 = 0) (hdg : decode cc pc = .ok (.getfield idx, 3)) (kk : Go B C ce sl (pc + 3) L (.ref a :: st) h) : Go B C ce sl pc L (.ref o :: st) h := by
  rcases hci with rfl | rfl | rfl
  · exact go_geto hC (j := 2) ho rfl rfl hn1 (by decide) rfl rfl hw (Or.inl rfl) hz hdg kk
  · exact go_geto hC (j := 2) ho rfl rfl hn7 (by decide) rfl rfl hw (Or.inl rfl) hz hdg kk
  · exact go_geto hC (j := 2) ho rfl rfl hn9 (by decide) rfl rfl hw (Or.inl rfl) hz hdg kk
theorem go_tab (hC : Cx C cc nL Ts own ret R) {dflt lo hi : Int} {offs : Array Int} {len : Nat} {x v : Int32} {off : Int} {tgt : Nat} (hdg : decode cc pc = .ok (.tableswitch dflt lo hi offs, len)) (hx : x = v) (h1 : ¬ v.toInt < lo) (h2 : ¬ hi < v.toInt) (ho : offs[(v.toInt - lo).toNat]? = some off) (ht : (pc : Int) + off = (tgt : Int)) (kk : Go B C ce sl tgt L st h) : Go B C ce sl pc L (.int x :: st) h := by
  subst hx
  exact go_tabIn hC hdg h1 h2 ho ht kk
end GR3
def sw_b {α β γ : Type} (y : α ⊕ β) (f : α → Option γ) (g : β → Option γ) : Option γ := match y with
  | .inl a => f a
  | .inr b => g b
theorem sw_r {α β γ : Type} {b : β} {f : α → Option γ} {g : β → Option γ} {x : γ} (h : sw_b (.inr b) f g = some x) : g b = some x := h
theorem lp_c {σ ρ : Type} {body : σ → Option (σ ⊕ ρ)} {n : Nat} {a : σ} {x : ρ} (h : (∃ t, (Sum.inl a : σ ⊕ ρ) = .inl t ∧ lp_f body n t = some x) ∨ (Sum.inl a : σ ⊕ ρ) = .inr x) : lp_f body n a = some x := by
  rcases h with ⟨t, ht, hp⟩ | h
  · cases ht; exact hp
  · cases h
theorem lp_x {σ ρ : Type} {a x : ρ} {P : σ → Prop} (h : (∃ t, (Sum.inr a : σ ⊕ ρ) = .inl t ∧ P t) ∨ (Sum.inr a : σ ⊕ ρ) = .inr x) : a = x := by
  rcases h with ⟨t, ht, hp⟩ | h
  · cases ht
  · cases h; rfl
def gc_y {β : Type} (sp dp n : Int32) (n0 n1 : Nat) (k : Option β) : Option β := if ¬ sp < 0 ∧ ¬ dp < 0 ∧ ¬ n < 0 ∧ sp.toNatClampNeg + n.toNatClampNeg ≤ n0 ∧ dp.toNatClampNeg + n.toNatClampNeg ≤ n1 then k else none
theorem gc_e {β : Type} {sp dp n : Int32} {n0 n1 : Nat} {k : Option β} {x : β} (h : gc_y sp dp n n0 n1 k = some x) : (¬ sp < 0 ∧ ¬ dp < 0 ∧ ¬ n < 0 ∧ sp.toNatClampNeg + n.toNatClampNeg ≤ n0 ∧ dp.toNatClampNeg + n.toNatClampNeg ≤ n1) ∧ k = some x := by
  unfold gc_y at h
  split at h
  · next hn => exact ⟨hn, h⟩
  · cases h
theorem so_1 {α : Type} {a c : α} (h : some a = some c) : c = a := (Option.some.inj h).symm
theorem so_2 {α β : Type} {a c : α} {b d : β} (h : some (a, b) = some (c, d)) : c = a ∧ d = b := ⟨(Prod.mk.inj (Option.some.inj h)).1.symm, (Prod.mk.inj (Option.some.inj h)).2.symm⟩
def rm_d (d : Nat) : Room := { frames := d, cells := 0, slots := 0, locals := 41 * d }
theorem tb_of {x : Int32} {n : Nat} (hn : n < 1000) (h : ∀ j : Nat, j < n → ¬ x = nI j) : x.toInt < 0 ∨ (n : Int) - 1 < x.toInt := by
  rcases pk_ix x (n := n) (by omega) with q | q | ⟨j, hj, hx⟩
  · exact Or.inl (Int32.lt_iff_toInt_lt.mp q)
  · refine Or.inr ?_
    have := Int32.le_iff_toInt_le.mp q
    rw [nI_toInt (by omega)] at this
    omega
  · exact absurd hx (h j hj)
