theorem gi_l {a b ws : List Cond} (h : GoodIn a ws) : GoodIn (a ++ b) ws := fun w hw => ⟨List.mem_append_left _ (h w hw).1, (h w hw).2⟩
theorem gi_x {a hd ws ext : List Cond} (h : GoodIn a (hd ++ ws)) (he : GoodIn a ext) : GoodIn a (hd ++ (ws ++ ext)) := by
  intro w hw
  rw [← List.append_assoc] at hw
  rcases List.mem_append.mp hw with q | q
  · exact h w q
  · exact he w q
/-! A STATIC METHOD CALLED BY THE NAME OF A SUBCLASS (the kit has that for virtual calls alone) -/
section ST
variable {Q : Unit → Pre} {E : CtlPost} {e : Env} {d : Bool} {acts : List Action} {s s₀ : State} {f : JFrame}
theorem ip_cold {index ci n c : Nat} {m : MethodId} {dk ck : Class} {cf : ClassFile} {name desc : String} (hs : s.topJava?.isSome) (hp : e.platform.polymorphicOnlyByInvokevirtual = true)
    (hW : s₀.WarmedH s.vm) (hE : s₀.MethodEntryUp e s.vm f.method.cls index c m ci) (h1 : s₀.vm.classes[f.method.cls]? = some dk) (h2 : dk.cf = some cf)
    (h3 : cf.constantPool[index]? = some (.methodref ci n)) (h4 : cf.constantPool.nameAndType? n = some (name, desc))
    (hck : s₀.vm.classes[c]? = some ck) (hnone : (ck.methods.any fun x => x.name == name && !x.isStatic && signaturePolymorphic ck x) = false) :
    wp (invokestatic.sem index) Q E e d acts (s.setTop f) ↔ wp (invokestatic.sem index) Q E e d acts ((s.setVm (s.vm.calledUp f.method.cls ci index c m)).setTop f) := by
  obtain ⟨hgc, hrc, hW₁, hgm⟩ := hE.classFirst
  obtain ⟨k₀, hk₀, he₀⟩ := hW.alike.2.2 _ _ h1
  obtain ⟨k₂, hk₂, he₂⟩ := hE.warmed.alike.2.2 _ _ h1
  obtain ⟨c₁, hc₁, hec₁⟩ := hW₁.alike.2.2 _ _ hck
  obtain ⟨c₂, hc₂, hec₂⟩ := hE.warmed.alike.2.2 _ _ hck
  have hb₀ := memberRef_ask_via (e := e) (via := false) hk₀ (by rw [he₀]; exact h2) h3 h4
  have hb₂ := memberRef_ask_via (e := e) (via := false) hk₂ (by rw [he₂]; exact h2) h3 h4
  have hn₁ : (c₁.methods.any fun x => x.name == name && !x.isStatic && signaturePolymorphic c₁ x) = false := by rw [hec₁]; exact hnone
  have hn₂ : (c₂.methods.any fun x => x.name == name && !x.isStatic && signaturePolymorphic c₂ x) = false := by rw [hec₂]; exact hnone
  have hs₁ : (s.setVm (s.vm.noted f.method.cls ci (.cls c))).topJava?.isSome := hs
  have hs₂ : (s.setVm (s.vm.calledUp f.method.cls ci index c m)).topJava?.isSome := hs
  have hL : ∀ {Q' : ClassId → Pre} {d' : Bool} {acts' : List Action}, wp (Jvm.resolveClassAt ci) Q' E e d' acts' (s.setTop f) ↔ Q' c d' acts' ((s.setVm (s.vm.noted f.method.cls ci (.cls c))).setTop f) :=
    W.resolveClassAt_links (t := s.setTop f) (State.method?_setTop f hs) hgc
  have hM : ∀ {Q' : MethodId → Pre} {d' : Bool} {acts' : List Action}, wp (Jvm.resolveMethodAt index) Q' E e d' acts' ((s.setVm (s.vm.noted f.method.cls ci (.cls c))).setTop f) ↔ Q' m d' acts' ((s.setVm (s.vm.calledUp f.method.cls ci index c m)).setTop f) :=
    W.resolveMethodAt_links (t := (s.setVm (s.vm.noted f.method.cls ci (.cls c))).setTop f) (State.method?_setTop f hs₁) hgm
  simp [invokestatic.sem, hp, Seam.memberRefOf, State.method?_setTop f hs, State.method?_setTop f hs₂, hb₀, hb₂, hL, W.resolveClassAt_ready (s := (s.setVm (s.vm.calledUp f.method.cls ci index c m)).setTop f) (State.method?_setTop f hs₂) hE.classReady,
    hc₁, hc₂, hn₁, hn₂, hM, W.resolveMethodAt_ready (s := (s.setVm (s.vm.calledUp f.method.cls ci index c m)).setTop f) (State.method?_setTop f hs₂) hE.ready, -Array.any_eq_true]
end ST
section ST2
variable {p : Program} {l : Launch} {e : Env} {R : Room} {s : State} {m : MethodId} {args : Array Value} {below : List Frame} {meth : Method} {c : Code} {T : State} {locs : List Loc} {cells slots : Nat}
theorem ip_stat (X : Stand p l e R s m args below meth c T locs cells slots) (hexec : p.tables.exec = Jvm.exec)
    {own owner : String} {index : Nat} {x : MethodName} (hown : s.vm.findClass own = some m.cls) (hlink : (Cond.methodLink own index x).before args s = true)
    (hsame : (Cond.sameMethod x.cls owner x.name x.desc).before args s = true) (howner : owner ≠ "java/lang/invoke/MethodHandle" ∧ owner ≠ "java/lang/invoke/VarHandle")
    {m' : MethodId} {meth' : Method} {k' : Class} (hn : s.methodNamed? ⟨owner, x.name, x.desc⟩ = some m') (hm' : s.vm.method? m' = some meth') (hstatic : meth'.isStatic = true)
    (hk' : s.vm.classes[m'.cls]? = some k') (hinit : k'.init = .initialized)
    {g : JFrame} (hg : g.method = m) {argsL rest : List Value} (hlen : argsL.length = meth'.sig.parameters.length) (hstack : g.stack = argsL.reverse ++ rest)
    (hdg : decode c.code g.pc = .ok (.invokestatic index, 3)) :
    ∃ vm', Stand p l e R s m args below meth c (T.setVm vm') locs cells slots ∧
      ∀ target, (∀ acts, Steps p.tables e below (doInvoke e ((T.setVm vm').setTop { g with stack := rest }) acts m' argsL.toArray).1 target) → Steps p.tables e below (T.setTop g) target := by
  have hpl : e.platform.magicAccessors = ({} : Platform).magicAccessors := by rw [X.admits.platform]
  have hpv : e.platform.polymorphicOnlyByInvokevirtual = true := by rw [X.admits.platform]
  obtain ⟨cn, ck, r1, hcn, hck, hni, hf, hn1⟩ := Cond.sameMethod_found hsame
  cases hn.symm.trans hn1
  obtain ⟨ci, hl, hright⟩ := Cond.methodLink_specUp hown hcn hck hni hf hlink e.platform hpl (by rw [X.admits.platform])
  have hE : s.MethodEntryUp e T.vm m.cls index cn m' ci := State.methodEntryUp X.warmed hl hright
  obtain ⟨kr, hkr, hnr⟩ := className_of_methodNamed hn
  cases hk'.symm.trans hkr
  obtain ⟨dk, cfile, nt, mname, mdesc, ck', _, _, hd, hcf, hcp, hnt, -, -, hck', -, hnopoly, -⟩ := hl.here
  cases hck.symm.trans hck'
  have alike := hE.warmed.alike
  obtain ⟨dk₂, hdk₂, hed₂⟩ := alike.2.2 _ _ hd
  obtain ⟨k₂, hk₂, he₂⟩ := alike.2.2 _ _ hk'
  obtain ⟨ck₂, hck₂, hec₂⟩ := alike.2.2 _ _ hck
  have hnone : (ck.methods.any fun y => y.name == mname && !y.isStatic && signaturePolymorphic ck y) = false := by simp [hnopoly]
  have hnone₂ : (ck₂.methods.any fun y => y.name == mname && !y.isStatic && signaturePolymorphic ck₂ y) = false := by rw [hec₂]; exact hnone
  refine ⟨T.vm.calledUp m.cls ci index cn m', X.noted hE.warmed, fun target hrest => ?_⟩
  subst hg
  jvm_step X.here [hexec, hdg, ip_cold (e := e) (s := T) (s₀ := s) (f := g) X.here.top hpv X.warmed hE hd hcf hcp hnt hck hnone,
    invokestatic.wp_ready (e := e) (s := T.setVm (T.vm.calledUp g.method.cls ci index cn m')) (k := k₂) (meth := meth') (m := m') (args := argsL) (rest := rest) (f := g)
      X.here.top ⟨ci, mname, mdesc, false, cn, ck₂, memberRef_ask_via (e := e) (via := false) hdk₂ (by rw [hed₂]; exact hcf) hcp hnt, hE.classReady, hck₂, hnone₂⟩ hE.ready hk₂
      (by show (T.vm.calledUp g.method.cls ci index cn m').method? m' = some meth'; rw [alike.method?]; exact hm') (by rw [he₂]; exact signaturePolymorphic_of_name (by rw [hnr]; exact howner) meth') hstatic (by rw [he₂]; exact hinit) hlen hstack]
  exact fun acts => hrest _
theorem ip_call (X : Stand p l e R s m args below meth c T locs cells slots) (hexec : p.tables.exec = Jvm.exec) {own owner : String} {index : Nat} {x y : MethodName} {bytes : ByteArray} {maxL : Nat} {ret : Option FieldType}
    (hown : s.vm.findClass own = some m.cls) (hlink : (Cond.methodLink own index x).before args s = true) (hsame : (Cond.sameMethod x.cls owner x.name x.desc).before args s = true) (hyx : y = ⟨owner, x.name, x.desc⟩) (hstat : (Cond.static y).before args s = true) (hinit : (Cond.initialized y.cls).before args s = true)
    (hcode : (Cond.code y bytes maxL ret).before args s = true) (hy : y.cls ≠ "java/lang/invoke/MethodHandle" ∧ y.cls ≠ "java/lang/invoke/VarHandle")
    {W : Nat} {Pre : Pt → Array Value → Prop} {Post : Pt → Array Value → Option Value → Pt → Prop} (hK : Back l R p e below s args y 3 W Pre Post)
    {g : JFrame} (hg : g.method = m) (hsize : g.locals.size = c.maxLocals) {argsL rest : List Value} (hlen : ∀ sig, parseMethodDescriptor y.desc = some sig → argsL.length = sig.parameters.length)
    (hstack : g.stack = argsL.reverse ++ rest) (hW : 2 * g.monitorRoom + (rest.map fun v => v.category).sum ≤ W) (hdg : decode c.code g.pc = .ok (.invokestatic index, 3))
    (hpre : ∀ vm₁, s.WarmedH vm₁ → Pre ⟨T.setVm vm₁, locs, cells, slots⟩ argsL.toArray) :
    ∃ (v : Option Value) (vm₁ : Vm) (B : Pt), s.WarmedH vm₁ ∧ Stand p l e R s m args below meth c B.U B.locs B.cells B.slots ∧ Post ⟨T.setVm vm₁, locs, cells, slots⟩ argsL.toArray v B ∧
      ∀ target, Steps p.tables e below (B.U.setTop { g with pc := g.pc + 3, stack := v.toList ++ rest }) target → Steps p.tables e below (T.setTop g) target := by
  subst hyx
  obtain ⟨mk, hnamed⟩ := Cond.code_named hcode
  obtain ⟨methM, cM, hmethM, -, -, -, -, -, -, hsigM⟩ := Cond.code_spec hnamed hcode
  have hstatic : methM.isStatic = true := Cond.static_spec hnamed hmethM hstat
  obtain ⟨kP, hkP, -⟩ := className_of_methodNamed hnamed
  have hinitP : kP.init = .initialized := Cond.initialized_spec (findClass_of_methodNamed hnamed) hkP hinit
  obtain ⟨vm₁, X₁, hstep₁⟩ := ip_stat X hexec hown hlink hsame hy hnamed hmethM hstatic hkP hinitP (g := g) hg (argsL := argsL) (rest := rest) (hlen _ hsigM) hstack hdg
  obtain ⟨v, B, X', hpost, hsteps⟩ := hK m meth c ⟨T.setVm vm₁, locs, cells, slots⟩ { g with stack := rest } (.invokestatic index) mk argsL.toArray X₁ hg hsize hdg hW (X₁.named hnamed) (hpre vm₁ X₁.warmed)
  exact ⟨v, vm₁, B, X₁.warmed, X', hpost, fun target h => hstep₁ _ fun acts => by rw [doInvoke_state]; exact hsteps.trans h⟩
end ST2
section ST3
variable {C : GC} {cc : ByteArray} {nL : Nat} {Ts : List Cond} {own : String} {ret : Option FieldType} {R : Room} {B : List Ly} {ce sl pc : Nat} {L : List (Nat × Value)} {st : List Value} {h : PH}
variable {y x : MethodName} {ws ws' : List Cond} {rm : Room} {As st0 : List Value} {r : Option Value} {h2 : PH} {k ci idx n N maxL : Nat} {bytes : ByteArray} {rt : Option FieldType} {ks : List (Nat × Nat)} {Cn owner : String} {T : u_T}
theorem go_callX (hC : Cx C cc nL Ts own ret R) (hM : Con y ws rm B As h r h2) (hG : GoodIn Ts ws) (hw : ws = Cond.code y bytes maxL rt :: ws') (hrc : rm.cells = 0 ∧ rm.slots = 0) (hyx : y = ⟨owner, x.name, x.desc⟩) (hw1 : Cond.methodLink own idx x ∈ Ts) (hw2 : Cond.sameMethod x.cls owner x.name x.desc ∈ Ts) (hw3 : Cond.static y ∈ Ts) (hw4 : Cond.initialized y.cls ∈ Ts) (n : Nat) (hd : y.cls ≠ "java/lang/invoke/MethodHandle" ∧ y.cls ≠ "java/lang/invoke/VarHandle" ∧ (parseMethodDescriptor y.desc).map (fun d => d.parameters.length) = some n) (hR : rm.frames + 1 ≤ R.frames ∧ 8 + (maxL + 11) + rm.locals ≤ R.locals) (hn : As.length = n) (hst : st0 = As.reverse ++ st) {st1 : List Value} (hst1 : r.toList ++ st = st1) (hsum : (st.map fun v => v.category).sum ≤ 8) (hce : ce ≤ R.cells ∧ sl ≤ R.slots) (hdg : decode cc pc = .ok (.invokestatic idx, 3)) (kk : Go B C ce sl (pc + 3) L st1 h2) : Go B C ce sl pc L st0 h := by
  obtain ⟨p, l, e, R0, s, m, args, below, meth, c, D, cy, A, nL0, AR, Q⟩ := C
  obtain ⟨h1, h2', h3, h4, h5, h6, h7, h8, h9, h10, h11⟩ := hC
  subst h4
  subst h5
  subst hst
  intro ad H locs ls ha hW hS hl
  have hcw : Cond.code y bytes maxL rt ∈ ws := by rw [hw]; exact List.mem_cons_self
  have hM' : Met l y ws rm (cq_P D cy B ad h H.size As) (cq_Q D cy B ad h H.size r h2) 0 0 (va_A (wl_s cy ad B h) H.size) := hM l D cy ad H.size
  have hK : Back l R0 p e below s args y 3 8 (PreOf R0 0 0 (cq_P D cy B ad h H.size As)) (PostOf (cq_Q D cy B ad h H.size r h2) 0 0 (va_A (wl_s cy ad B h) H.size)) :=
    back_of (bytes := bytes) (maxL := maxL) (ret := rt) hM' (cq_blind D cy B ad h H.size As) hrc.1 hrc.2 hR.1 hR.2 (fun w hw' a' U hWm => word_at hWm (hG w hw').2 (h7 w (hG w hw').1)) hcw (fun a' U hWm => word_at hWm (Or.inl (by first | rfl | simp [Cond.onTables, Cond.keeps, Cond.steady])) (h7 _ hw4))
  have hrun : va_Run p l e R0 s m args below meth c H locs ce sl 0 0 (F0 m pc ls ((As.map (pv_c ad)).reverse ++ st.map (pv_c ad))) (st.map (pv_c ad)) (cq_Q D cy B ad h H.size r h2 (As.map (pv_c ad)).toArray) (va_A (wl_s cy ad B h) H.size) := by
    intro T hT X
    obtain ⟨v, vm₁, ⟨U', l2, c2, s2⟩, hW₁, X', ⟨g', mk, t, L2, e1, e2, hq, g1, hL, g2, g3⟩, stp⟩ := ip_call X h1 (bytes := bytes) (maxL := maxL) (ret := rt) h6 (h7 _ hw1) (h7 _ hw2) hyx (h7 _ hw3) (h7 _ hw4) (h7 _ (hG _ hcw).1) ⟨hd.1, hd.2.1⟩ hK (g := F0 m pc ls ((As.map (pv_c ad)).reverse ++ st.map (pv_c ad))) rfl (hl.1.trans h3.symm) (argsL := As.map (pv_c ad)) (rest := st.map (pv_c ad)) (fun sig hsig => by
        have := hd.2.2
        rw [hsig] at this
        rw [List.length_map, hn]
        exact (Option.some.inj this).symm) rfl (lv_room (by rw [pv_sum]; exact hsum)) (by rw [h2']; exact hdg)
      (fun vm₁ hWm => ⟨hce.1, hce.2, rfl, by show (T.setVm vm₁).heap.size = _; show T.heap.size = _; rw [hT], ⟨by show va_P D vwCl _ T.heap; rw [hT]; exact hW.1, hW.2.weaken (fun _ _ _ _ => trivial)⟩, kz_W (U := T.setVm vm₁) hWm h8⟩)
    dsimp only [Pt.U, Pt.locs, Pt.cells, Pt.slots] at X' e1 e2 g1 g2 g3 stp
    subst g1; subst g2; subst g3
    exact ⟨v, (T.setVm vm₁).calling g' mk (As.map (pv_c ad)).toArray, t, U', L2, hT, X', hL, e1, e2, hq, stp⟩
  refine W.eq (g2 := F0 m pc ls ((As.map (pv_c ad)).reverse ++ st.map (pv_c ad))) (by simp) ?_
  refine cg_W (rest := st.map (pv_c ad)) hrun hS (cg_F hW.2 hS h11) (fun H1 locs1 hW1 hS1 => ?_)
  rw [cg_st, hst1]
  exact kk ad H1 locs1 ls ha hW1 hS1 hl
end ST3
