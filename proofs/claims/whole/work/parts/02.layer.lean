/-! THE PURE HEAP. A cell's layout: .inl (t, n): an array of n (t: 0 int, 1 boolean, 2 long, 3 of ways), .inr (class number, field kinds): kinds (0, _) int, (1, _) long, (2, q) null or the cell q (by a flag), (3, q) the cell q. A heap: ints by cell and place, longs by cell and place, the ways' row, the cells that came behind the first ones. -/
abbrev Ly : Type := (Nat × Nat) ⊕ (Nat × List (Nat × Nat))
abbrev PH : Type := (Nat → Nat → Int32) × (Nat → Nat → Int64) × (Nat → Nat → Option Nat) × List Ly
def up_R {α : Type} (f : Nat → Nat → α) (k : Nat) (g : Nat → α) : Nat → Nat → α := fun a => if a = k then g else f a
theorem up_R_s {α : Type} (f : Nat → Nat → α) (k : Nat) (g : Nat → α) : up_R f k g k = g := if_pos rfl
theorem up_R_n {α : Type} (f : Nat → Nat → α) {k a : Nat} (g : Nat → α) (h : a ≠ k) : up_R f k g a = f a := if_neg h
/-- an int comes to a place of a cell -/
def ph_i (h : PH) (k j : Nat) (v : Int32) : PH := (up_R h.1 k (upd (h.1 k) j v), h.2)
def ph_r (h : PH) (k : Nat) (g : Nat → Int32) : PH := (up_R h.1 k g, h.2)
def ph_l (h : PH) (k j : Nat) (v : Int64) : PH := (h.1, up_R h.2.1 k (vp_updL (h.2.1 k) j v), h.2.2)
def ph_w (h : PH) (k j : Nat) (v : Option Nat) : PH := (h.1, h.2.1, up_R h.2.2.1 k (va_up (h.2.2.1 k) j v), h.2.2.2)
/-- a new cell, all 0, at the number n -/
def ph_n (h : PH) (n : Nat) (y : Ly) : PH := (up_R h.1 n (fun _ => 0), up_R h.2.1 n (fun _ => 0), up_R h.2.2.1 n (fun _ => none), h.2.2.2 ++ [y])
def pv_c (ad : Nat → Nat) (v : Value) : Value := match v with
  | .ref a => .ref (ad a)
  | v => v
def pf_d (ad : Nat → Nat) (i : Nat → Int32) (j : Nat → Int64) (k : Nat) (kd : Nat × Nat) : Value :=
  if kd.1 = 0 then .int (i k) else if kd.1 = 1 then .long (j k) else if kd.1 = 2 then (if i k = 0 then .null else .ref (ad kd.2)) else .ref (ad kd.2)
def pc_e (cy : Nat → ClassId) (ad : Nat → Nat) (i : Nat → Int32) (j : Nat → Int64) (w : Nat → Option Nat) (y : Ly) : va_E := match y with
  | .inl a => .inl (cy a.1, a.2, if a.1 = 3 then .inr (.inr (.inr (.inr (fun x => (w x).map ad)))) else if a.1 = 2 then .inr (.inl j) else .inl i)
  | .inr o => .inr (o.1, o.2.mapIdx (pf_d ad i j))
def wl_s (cy : Nat → ClassId) (ad : Nat → Nat) (B : List Ly) (h : PH) : va_W := (B ++ h.2.2.2).mapIdx (fun k y => (ad k, pc_e cy ad (h.1 k) (h.2.1 k) (h.2.2.1 k) y))
def wd_P (D : va_G) (cy : Nat → ClassId) (A : Nat → Prop) (B : List Ly) (ad : Nat → Nat) (h : PH) (H : Heap) : Prop := va_P D vwCl (wl_s cy ad B h) H ∧ va_D A (wl_s cy ad B h)
abbrev ty_l (cy : Nat → ClassId) : List (ClassId × FieldType) := [(cy 0, .int), (cy 1, .boolean), (cy 2, .long), (cy 3, .object "LampWays$Chain")]
/-- what the tables say of the classes, the arrays, and the ways' kinds -/
def kz_P (D : va_G) (cy : Nat → ClassId) (U : State) : Prop := va_K D vwCl (ty_l cy) U ∧ va_Nw (.castable "LampWays$Ring" "LampWays$Chain") U ∧ va_Nw (.castable "LampWays$Strong" "LampWays$Chain") U ∧ va_Nw (.castable "LampWays$Strong" "LampWays$Ring") U ∧ va_Nc "LampWays$Chain" "LampWays$Ring" U ∧ va_Nc "LampWays$Chain" "LampWays$Strong" U ∧ va_Nc "LampWays$Ring" "LampWays$Strong" U ∧ va_AO "LampWays$Chain" U
theorem kz_W {D : va_G} {cy : Nat → ClassId} {s U : State} (hW : s.WarmedH U.vm) (h : kz_P D cy s) : kz_P D cy U := ⟨va_K.moved hW.alike h.1, va_Nw.warmC hW h.2.1, va_Nw.warmC hW h.2.2.1, va_Nw.warmC hW h.2.2.2.1, va_Nc.moved hW.alike h.2.2.2.2.1, va_Nc.moved hW.alike h.2.2.2.2.2.1, va_Nc.moved hW.alike h.2.2.2.2.2.2.1, va_AO.moved hW.alike h.2.2.2.2.2.2.2⟩
theorem kz_S {D : va_G} {cy : Nat → ClassId} {s U : State} (hW : s.vm = U.vm) (h : kz_P D cy s) : kz_P D cy U := by
  have ha : s.vm.Alike U.vm := by rw [hW]; exact Vm.Alike.refl U.vm
  exact ⟨va_K.moved ha h.1, va_Nw.same rfl hW h.2.1, va_Nw.same rfl hW h.2.2.1, va_Nw.same rfl hW h.2.2.2.1, va_Nc.moved ha h.2.2.2.2.1, va_Nc.moved ha h.2.2.2.2.2.1, va_Nc.moved ha h.2.2.2.2.2.2.1, va_AO.moved ha h.2.2.2.2.2.2.2⟩
theorem wl_get {cy : Nat → ClassId} {ad : Nat → Nat} {B : List Ly} {h : PH} {k : Nat} {y : Ly} (hy : (B ++ h.2.2.2)[k]? = some y) : (wl_s cy ad B h)[k]? = some (ad k, pc_e cy ad (h.1 k) (h.2.1 k) (h.2.2.1 k) y) := by
  simp [wl_s, List.getElem?_mapIdx, hy]
theorem wl_len (cy : Nat → ClassId) (ad : Nat → Nat) (B : List Ly) (h : PH) : (wl_s cy ad B h).length = (B ++ h.2.2.2).length := by
  simp [wl_s]
theorem wl_ext {cy : Nat → ClassId} {ad : Nat → Nat} {B : List Ly} {h h2 : PH} {k : Nat} {y : Ly} {e : va_E} (hy : (B ++ h.2.2.2)[k]? = some y) (hd : h2.2.2.2 = h.2.2.2) (he : pc_e cy ad (h2.1 k) (h2.2.1 k) (h2.2.2.1 k) y = e)
    (ho : ∀ (j : Nat) (z : Ly), j ≠ k → (B ++ h.2.2.2)[j]? = some z → pc_e cy ad (h2.1 j) (h2.2.1 j) (h2.2.2.1 j) z = pc_e cy ad (h.1 j) (h.2.1 j) (h.2.2.1 j) z) : (wl_s cy ad B h).set k (ad k, e) = wl_s cy ad B h2 := by
  have hkl : k < (wl_s cy ad B h).length := by rw [wl_len]; exact (List.getElem?_eq_some_iff.mp hy).1
  apply List.ext_getElem?
  intro j
  by_cases hj : j = k
  · subst hj
    rw [List.getElem?_set_self hkl, wl_get (h := h2) (y := y) (by rw [hd]; exact hy), he]
  · rw [List.getElem?_set_ne (fun q => hj q.symm)]
    cases hz : (B ++ h.2.2.2)[j]? with
    | none =>
      have h1 : (B ++ h.2.2.2).length ≤ j := List.getElem?_eq_none_iff.mp hz
      rw [List.getElem?_eq_none_iff.mpr (by rw [wl_len]; exact h1), List.getElem?_eq_none_iff.mpr (by rw [wl_len, hd]; exact h1)]
    | some z => rw [wl_get hz, wl_get (h := h2) (y := z) (by rw [hd]; exact hz), ho j z hj hz]
theorem wl_setI {cy : Nat → ClassId} {ad : Nat → Nat} {B : List Ly} {h : PH} {k : Nat} {y : Ly} {g : Nat → Int32} {e : va_E} (hy : (B ++ h.2.2.2)[k]? = some y) (he : pc_e cy ad g (h.2.1 k) (h.2.2.1 k) y = e) : (wl_s cy ad B h).set k (ad k, e) = wl_s cy ad B (ph_r h k g) := by
  refine wl_ext hy rfl ?_ (fun j z hj _ => ?_)
  · show pc_e cy ad (up_R h.1 k g k) _ _ _ = _
    rw [up_R_s]; exact he
  · show pc_e cy ad (up_R h.1 k g j) _ _ _ = _
    rw [up_R_n _ _ hj]; rfl
theorem wl_setL {cy : Nat → ClassId} {ad : Nat → Nat} {B : List Ly} {h : PH} {k j0 : Nat} {v : Int64} {y : Ly} {e : va_E} (hy : (B ++ h.2.2.2)[k]? = some y) (he : pc_e cy ad (h.1 k) (vp_updL (h.2.1 k) j0 v) (h.2.2.1 k) y = e) : (wl_s cy ad B h).set k (ad k, e) = wl_s cy ad B (ph_l h k j0 v) := by
  refine wl_ext hy rfl ?_ (fun j z hj _ => ?_)
  · show pc_e cy ad _ (up_R h.2.1 k _ k) _ _ = _
    rw [up_R_s]; exact he
  · show pc_e cy ad _ (up_R h.2.1 k _ j) _ _ = _
    rw [up_R_n _ _ hj]; rfl
theorem wl_setW {cy : Nat → ClassId} {ad : Nat → Nat} {B : List Ly} {h : PH} {k j0 : Nat} {v : Option Nat} {y : Ly} {e : va_E} (hy : (B ++ h.2.2.2)[k]? = some y) (he : pc_e cy ad (h.1 k) (h.2.1 k) (va_up (h.2.2.1 k) j0 v) y = e) : (wl_s cy ad B h).set k (ad k, e) = wl_s cy ad B (ph_w h k j0 v) := by
  refine wl_ext hy rfl ?_ (fun j z hj _ => ?_)
  · show pc_e cy ad _ _ (up_R h.2.2.1 k _ k) _ = _
    rw [up_R_s]; exact he
  · show pc_e cy ad _ _ (up_R h.2.2.1 k _ j) _ = _
    rw [up_R_n _ _ hj]; rfl
/-- the fields of an object by their kinds -/
theorem pf_0 (ad : Nat → Nat) (i : Nat → Int32) (j : Nat → Int64) (k q : Nat) : pf_d ad i j k (0, q) = .int (i k) := rfl
theorem pf_1 (ad : Nat → Nat) (i : Nat → Int32) (j : Nat → Int64) (k q : Nat) : pf_d ad i j k (1, q) = .long (j k) := rfl
theorem pf_3 (ad : Nat → Nat) (i : Nat → Int32) (j : Nat → Int64) (k q : Nat) : pf_d ad i j k (3, q) = .ref (ad q) := rfl
theorem pf_2n (ad : Nat → Nat) {i : Nat → Int32} (j : Nat → Int64) {k : Nat} (q : Nat) (h : i k = 0) : pf_d ad i j k (2, q) = .null := by
  simp [pf_d, h]
theorem pf_2s (ad : Nat → Nat) {i : Nat → Int32} (j : Nat → Int64) {k : Nat} (q : Nat) (h : ¬ i k = 0) : pf_d ad i j k (2, q) = .ref (ad q) := by
  simp [pf_d, h]
theorem pf_set {ad : Nat → Nat} {i i2 : Nat → Int32} {j j2 : Nat → Int64} {ks : List (Nat × Nat)} {k : Nat} {kd : Nat × Nat} {v : Value} (hk : ks[k]? = some kd) (hv : pf_d ad i2 j2 k kd = v) (ho : ∀ (a : Nat) (d : Nat × Nat), a ≠ k → pf_d ad i2 j2 a d = pf_d ad i j a d) : ks.mapIdx (pf_d ad i2 j2) = (ks.mapIdx (pf_d ad i j)).set k v := by
  have hl : k < (ks.mapIdx (pf_d ad i j)).length := by simp; exact (List.getElem?_eq_some_iff.mp hk).1
  apply List.ext_getElem?
  intro a
  by_cases ha : a = k
  · subst ha
    rw [List.getElem?_set_self hl, List.getElem?_mapIdx, hk]
    simp [hv]
  · rw [List.getElem?_set_ne (fun q => ha q.symm), List.getElem?_mapIdx, List.getElem?_mapIdx]
    cases ks[a]? with
    | none => rfl
    | some d => simp [ho a d ha]
theorem pf_setI {ad : Nat → Nat} {i : Nat → Int32} {j : Nat → Int64} {ks : List (Nat × Nat)} {k : Nat} {kd : Nat × Nat} {x : Int32} {v : Value} (hk : ks[k]? = some kd) (hv : pf_d ad (upd i k x) j k kd = v) : ks.mapIdx (pf_d ad (upd i k x) j) = (ks.mapIdx (pf_d ad i j)).set k v :=
  pf_set hk hv (fun a d ha => by simp [pf_d, upd, ha])
theorem pf_setL {ad : Nat → Nat} {i : Nat → Int32} {j : Nat → Int64} {ks : List (Nat × Nat)} {k : Nat} {kd : Nat × Nat} {x : Int64} {v : Value} (hk : ks[k]? = some kd) (hv : pf_d ad i (vp_updL j k x) k kd = v) : ks.mapIdx (pf_d ad i (vp_updL j k x)) = (ks.mapIdx (pf_d ad i j)).set k v :=
  pf_set hk hv (fun a d ha => by simp [pf_d, vp_updL, ha])
theorem pv_cat (ad : Nat → Nat) (v : Value) : (pv_c ad v).category = v.category := by cases v <;> rfl
theorem pv_sum (ad : Nat → Nat) (st : List Value) : ((st.map (pv_c ad)).map fun v => v.category).sum = (st.map fun v => v.category).sum := by
  rw [List.map_map]; congr 1; exact List.map_congr_left (fun v _ => pv_cat ad v)
abbrev lc_v (ad : Nat → Nat) (L : List (Nat × Value)) : List (Nat × Value) := L.map (fun q => (q.1, pv_c ad q.2))
theorem lc_args (ad : Nat → Nat) : ∀ (i : Nat) (vs : List Value), lv_args i (vs.map (pv_c ad)) = lc_v ad (lv_args i vs)
  | _, [] => rfl
  | i, v :: vs => by
    show (i, pv_c ad v) :: lv_args (if (pv_c ad v).category = 2 then i + 2 else i + 1) (vs.map (pv_c ad)) = (i, pv_c ad v) :: lc_v ad (lv_args (if v.category = 2 then i + 2 else i + 1) vs)
    rw [pv_cat, lc_args ad]
/-! THE JUDGEMENT: from the pure heap h, the locals L and the operands st at pc the machine comes to Q -/
abbrev GC : Type := Program × Launch × Env × Room × State × MethodId × Array Value × List Frame × Method × Code × va_G × (Nat → ClassId) × (Nat → Prop) × Nat × ((Nat → Nat) → Prop) × (State → Prop)
def Go (B : List Ly) (C : GC) (ce sl pc : Nat) (L : List (Nat × Value)) (st : List Value) (h : PH) : Prop := match C with
  | (p, l, e, R, s, m, args, below, meth, c, D, cy, A, nL, AR, Q) => ∀ (ad : Nat → Nat) (H : Heap) (locs : List Loc) (ls : Array Slot), AR ad → wd_P D cy A B ad h H → va_S A s.heap H locs → lv_has ls nL (lc_v ad L) → W p l e R s m args below meth c H locs ce sl Q (F0 m pc ls (st.map (pv_c ad)))
def Cx (C : GC) (cc : ByteArray) (nL : Nat) (Ts : List Cond) (own : String) (ret : Option FieldType) (R : Room) : Prop := match C with
  | (p, _, _, R0, s, m, args, _, meth, c, D, cy, A, nL0, _, _) => p.tables.exec = Jvm.exec ∧ c.code = cc ∧ c.maxLocals = nL ∧ nL0 = nL ∧ R0 = R ∧ s.vm.findClass own = some m.cls ∧ (∀ w ∈ Ts, w.before args s = true) ∧ kz_P D cy s ∧ meth.sig.returnType = ret ∧ meth.locks = false ∧ ∀ q, s.heap.size ≤ q → A q
/-! the pure programs' words -/
def fu_l : Nat := 10000
def lt_b {α β : Type} (a : α) (k : α → Option β) : Option β := k a
def bd_1 {α β : Type} (o : Option α) (k : α → Option β) : Option β := match o with
  | none => none
  | some a => k a
def bd_2 {α β : Type} (o : Option (α × PH)) (k : α → PH → Option β) : Option β := match o with
  | none => none
  | some a => k a.1 a.2
def ga_i {β : Type} (i : Int32) (n : Nat) (k : Option β) : Option β := if i < 0 ∨ n ≤ i.toNatClampNeg then none else k
def gz_i {β : Type} (y : Int32) (k : Option β) : Option β := if y = 0 then none else k
def gz_l {β : Type} (y : Int64) (k : Option β) : Option β := if y = 0 then none else k
def gb_i {β : Type} (v : Int32) (k : Option β) : Option β := if v = 0 ∨ v = 1 then k else none
def lp_f {σ ρ : Type} (body : σ → Option (σ ⊕ ρ)) : Nat → σ → Option ρ
  | 0, _ => none
  | n + 1, s => match body s with
    | none => none
    | some (.inl t) => lp_f body n t
    | some (.inr r) => some r
theorem lp_e {σ ρ : Type} {body : σ → Option (σ ⊕ ρ)} {n : Nat} {s : σ} {x : ρ} (h : lp_f body n s = some x) : ∃ (k : Nat) (y : σ ⊕ ρ), n = k + 1 ∧ body s = some y ∧ ((∃ t, y = .inl t ∧ lp_f body k t = some x) ∨ y = .inr x) := by
  cases n with
  | zero => cases h
  | succ k =>
    unfold lp_f at h
    split at h
    · cases h
    · next t ht => exact ⟨k, _, rfl, ht, Or.inl ⟨t, rfl, h⟩⟩
    · next r hr => cases h; exact ⟨k, _, rfl, hr, Or.inr rfl⟩
theorem lt_e {α β : Type} {a : α} {k : α → Option β} {x : β} (h : lt_b a k = some x) : ∃ y : α, y = a ∧ k y = some x := ⟨a, rfl, h⟩
theorem bd_e1 {α β : Type} {o : Option α} {k : α → Option β} {x : β} (h : bd_1 o k = some x) : ∃ a : α, o = some a ∧ k a = some x := by
  cases o with
  | none => cases h
  | some a => exact ⟨a, rfl, h⟩
theorem bd_e2 {α β : Type} {o : Option (α × PH)} {k : α → PH → Option β} {x : β} (h : bd_2 o k = some x) : ∃ (a : α) (t : PH), o = some (a, t) ∧ k a t = some x := by
  cases o with
  | none => cases h
  | some a => exact ⟨a.1, a.2, rfl, h⟩
theorem ga_e {β : Type} {i : Int32} {n : Nat} {k : Option β} {x : β} (h : ga_i i n k = some x) : vp_in i n ∧ k = some x := by
  unfold ga_i at h
  split at h
  · cases h
  · next hn => exact ⟨hn, h⟩
theorem gz_e {β : Type} {y : Int32} {k : Option β} {x : β} (h : gz_i y k = some x) : ¬ y = 0 ∧ k = some x := by
  unfold gz_i at h
  split at h
  · cases h
  · next hn => exact ⟨hn, h⟩
theorem gz_e2 {β : Type} {y : Int64} {k : Option β} {x : β} (h : gz_l y k = some x) : ¬ y = 0 ∧ k = some x := by
  unfold gz_l at h
  split at h
  · cases h
  · next hn => exact ⟨hn, h⟩
theorem gb_e {β : Type} {v : Int32} {k : Option β} {x : β} (h : gb_i v k = some x) : (v = 0 ∨ v = 1) ∧ k = some x := by
  unfold gb_i at h
  split at h
  · next hn => exact ⟨hn, h⟩
  · cases h
theorem if_t {c : Prop} {hd : Decidable c} {α : Type} {a b x : α} (hc : c) (h : (@ite α c hd a b) = x) : a = x := by rw [if_pos hc] at h; exact h
theorem if_f {c : Prop} {hd : Decidable c} {α : Type} {a b x : α} (hc : ¬ c) (h : (@ite α c hd a b) = x) : b = x := by rw [if_neg hc] at h; exact h
theorem zo_n {v : Int32} (h : v = 0 ∨ v = 1) : narrow .boolean (.int v) = .int v := by rcases h with rfl | rfl <;> rfl
theorem zo_f {v : Int32} (h : v = 0 ∨ v = 1) : fits .boolean (.int v) = true := by rcases h with rfl | rfl <;> rfl
/-- a field found by the class that declares it is found by the class that the link names -/
theorem sf_e {Ts : List Cond} {args : Array Value} {s : State} {a ref nm ds : String} (hts : ∀ w ∈ Ts, w.before args s = true) (h : a = ref ∨ Cond.sameField ref a nm ds ∈ Ts) : ∀ x, s.fieldFound? a nm ds = some x → s.fieldFound? ref nm ds = some x := by
  rcases h with rfl | h
  · exact fun _ h => h
  · exact u_same (hts _ h)
def cx_init (C : GC) : Prop := match C with
  | (_, _, _, _, _, _, _, _, meth, _, _, _, _, _, _, _) => meth.name = "<init>"
section GR
variable {C : GC} {cc : ByteArray} {nL : Nat} {Ts : List Cond} {own : String} {ret : Option FieldType} {R : Room} {B : List Ly} {ce sl pc : Nat} {L : List (Nat × Value)} {st : List Value} {h : PH}
theorem lc_at {ad : Nat → Nat} {L : List (Nat × Value)} {k i : Nat} {v : Value} (hk : L[k]? = some (i, v)) : (lc_v ad L)[k]? = some (i, pv_c ad v) := by
  simp [lc_v, hk]
theorem lc_st1 (ad : Nat → Nat) (L : List (Nat × Value)) (i : Nat) (v : Value) : lc_v ad ((i, v) :: L.filter (fun q => !(q.1 == i) && !(q.1 + 1 == i && q.2.category == 2))) = (i, pv_c ad v) :: (lc_v ad L).filter (fun q => !(q.1 == i) && !(q.1 + 1 == i && q.2.category == 2)) := by
  simp only [lc_v, List.map_cons, List.filter_map, Function.comp_def, pv_cat]
theorem lc_st2 (ad : Nat → Nat) (L : List (Nat × Value)) (i : Nat) (v : Value) : lc_v ad ((i, v) :: L.filter (fun q => !(q.1 == i) && (!(q.1 == i + 1) && !(q.1 + 1 == i && q.2.category == 2)))) = (i, pv_c ad v) :: (lc_v ad L).filter (fun q => !(q.1 == i) && (!(q.1 == i + 1) && !(q.1 + 1 == i && q.2.category == 2))) := by
  simp only [lc_v, List.map_cons, List.filter_map, Function.comp_def, pv_cat]
/-- fewer locals, in any order -/
theorem go_sub (ks : List Nat) {L' : List (Nat × Value)} (hL : lv_pick L ks = L') (kk : Go B C ce sl pc L' st h) : Go B C ce sl pc L st h := by
  obtain ⟨p, l, e, R0, s, m, args, below, meth, c, D, cy, A, nL0, AR, Q⟩ := C
  intro ad H locs ls ha hW hS hl
  refine kk ad H locs ls ha hW hS (lv_sub hl ks ?_)
  rw [← hL]
  simp only [lv_pick, lc_v, List.map_filterMap, List.getElem?_map]
theorem go_wid {k n : Nat} (h1 : ce ≤ k) (h2 : sl ≤ n) (kk : Go B C k n pc L st h) : Go B C ce sl pc L st h := by
  obtain ⟨p, l, e, R0, s, m, args, below, meth, c, D, cy, A, nL0, AR, Q⟩ := C
  intro ad H locs ls ha hW hS hl
  exact W.widen h1 h2 (kk ad H locs ls ha hW hS hl)
theorem go_iconst (hC : Cx C cc nL Ts own ret R) {n : Int} {v : Int32} (hdg : decode cc pc = .ok (.iconst n, 1)) (hv : Int32.ofInt n = v) (kk : Go B C ce sl (pc + 1) L (.int v :: st) h) : Go B C ce sl pc L (st) h := by
  obtain ⟨p, l, e, R0, s, m, args, below, meth, c, D, cy, A, nL0, AR, Q⟩ := C
  intro ad H locs ls ha hW hS hl
  exact lv_iconst hC.1 hC.2.1 hdg hv (kk ad H locs ls ha hW hS hl)
theorem go_bipush (hC : Cx C cc nL Ts own ret R) {n : Int} {v : Int32} (hdg : decode cc pc = .ok (.bipush n, 2)) (hv : (Int8.ofInt n).toInt32 = v) (kk : Go B C ce sl (pc + 2) L (.int v :: st) h) : Go B C ce sl pc L (st) h := by
  obtain ⟨p, l, e, R0, s, m, args, below, meth, c, D, cy, A, nL0, AR, Q⟩ := C
  intro ad H locs ls ha hW hS hl
  exact lv_bipush hC.1 hC.2.1 hdg hv (kk ad H locs ls ha hW hS hl)
theorem go_sipush (hC : Cx C cc nL Ts own ret R) {n : Int} {v : Int32} (hdg : decode cc pc = .ok (.sipush n, 3)) (hv : (Int16.ofInt n).toInt32 = v) (kk : Go B C ce sl (pc + 3) L (.int v :: st) h) : Go B C ce sl pc L (st) h := by
  obtain ⟨p, l, e, R0, s, m, args, below, meth, c, D, cy, A, nL0, AR, Q⟩ := C
  intro ad H locs ls ha hW hS hl
  exact lv_sipush hC.1 hC.2.1 hdg hv (kk ad H locs ls ha hW hS hl)
theorem go_lconst (hC : Cx C cc nL Ts own ret R) {n : Fin 2} {v : Int64} (hdg : decode cc pc = .ok (.lconst n, 1)) (hv : Int64.ofNat (n : Nat) = v) (kk : Go B C ce sl (pc + 1) L (.long v :: st) h) : Go B C ce sl pc L (st) h := by
  obtain ⟨p, l, e, R0, s, m, args, below, meth, c, D, cy, A, nL0, AR, Q⟩ := C
  intro ad H locs ls ha hW hS hl
  exact lv_lconst hC.1 hC.2.1 hdg hv (kk ad H locs ls ha hW hS hl)
theorem go_iload_n (hC : Cx C cc nL Ts own ret R) {f : Fin 4} {i : Nat} {x : Int32} (hdg : decode cc pc = .ok (.iload_n f, 1)) (hi : (f : Nat) = i) (k : Nat) (hk : L[k]? = some (i, .int x)) (kk : Go B C ce sl (pc + 1) L (.int x :: st) h) : Go B C ce sl pc L (st) h := by
  obtain ⟨p, l, e, R0, s, m, args, below, meth, c, D, cy, A, nL0, AR, Q⟩ := C
  intro ad H locs ls ha hW hS hl
  exact lv_iload_n hC.1 hC.2.1 hdg hi (lv_at hl k (lc_at hk)) (kk ad H locs ls ha hW hS hl)
theorem go_iload (hC : Cx C cc nL Ts own ret R) {i : Nat} {x : Int32} (hdg : decode cc pc = .ok (.iload i, 2)) (k : Nat) (hk : L[k]? = some (i, .int x)) (kk : Go B C ce sl (pc + 2) L (.int x :: st) h) : Go B C ce sl pc L (st) h := by
  obtain ⟨p, l, e, R0, s, m, args, below, meth, c, D, cy, A, nL0, AR, Q⟩ := C
  intro ad H locs ls ha hW hS hl
  exact lv_iload hC.1 hC.2.1 hdg (lv_at hl k (lc_at hk)) (kk ad H locs ls ha hW hS hl)
theorem go_lload_n (hC : Cx C cc nL Ts own ret R) {f : Fin 4} {i : Nat} {x : Int64} (hdg : decode cc pc = .ok (.lload_n f, 1)) (hi : (f : Nat) = i) (k : Nat) (hk : L[k]? = some (i, .long x)) (kk : Go B C ce sl (pc + 1) L (.long x :: st) h) : Go B C ce sl pc L (st) h := by
  obtain ⟨p, l, e, R0, s, m, args, below, meth, c, D, cy, A, nL0, AR, Q⟩ := C
  intro ad H locs ls ha hW hS hl
  exact lv_lload_n hC.1 hC.2.1 hdg hi (lv_at hl k (lc_at hk)) (kk ad H locs ls ha hW hS hl)
theorem go_lload (hC : Cx C cc nL Ts own ret R) {i : Nat} {x : Int64} (hdg : decode cc pc = .ok (.lload i, 2)) (k : Nat) (hk : L[k]? = some (i, .long x)) (kk : Go B C ce sl (pc + 2) L (.long x :: st) h) : Go B C ce sl pc L (st) h := by
  obtain ⟨p, l, e, R0, s, m, args, below, meth, c, D, cy, A, nL0, AR, Q⟩ := C
  intro ad H locs ls ha hW hS hl
  exact lv_lload hC.1 hC.2.1 hdg (lv_at hl k (lc_at hk)) (kk ad H locs ls ha hW hS hl)
theorem go_aload_n (hC : Cx C cc nL Ts own ret R) {f : Fin 4} {i a : Nat} (hdg : decode cc pc = .ok (.aload_n f, 1)) (hi : (f : Nat) = i) (k : Nat) (hk : L[k]? = some (i, .ref a)) (kk : Go B C ce sl (pc + 1) L (.ref a :: st) h) : Go B C ce sl pc L (st) h := by
  obtain ⟨p, l, e, R0, s, m, args, below, meth, c, D, cy, A, nL0, AR, Q⟩ := C
  intro ad H locs ls ha hW hS hl
  exact lv_aload_n hC.1 hC.2.1 hdg hi (lv_at hl k (lc_at hk)) (kk ad H locs ls ha hW hS hl)
theorem go_aload (hC : Cx C cc nL Ts own ret R) {i a : Nat} (hdg : decode cc pc = .ok (.aload i, 2)) (k : Nat) (hk : L[k]? = some (i, .ref a)) (kk : Go B C ce sl (pc + 2) L (.ref a :: st) h) : Go B C ce sl pc L (st) h := by
  obtain ⟨p, l, e, R0, s, m, args, below, meth, c, D, cy, A, nL0, AR, Q⟩ := C
  intro ad H locs ls ha hW hS hl
  exact lv_aload hC.1 hC.2.1 hdg (lv_at hl k (lc_at hk)) (kk ad H locs ls ha hW hS hl)
theorem go_aload_nN (hC : Cx C cc nL Ts own ret R) {f : Fin 4} {i : Nat} (hdg : decode cc pc = .ok (.aload_n f, 1)) (hi : (f : Nat) = i) (k : Nat) (hk : L[k]? = some (i, .null)) (kk : Go B C ce sl (pc + 1) L (.null :: st) h) : Go B C ce sl pc L (st) h := by
  obtain ⟨p, l, e, R0, s, m, args, below, meth, c, D, cy, A, nL0, AR, Q⟩ := C
  intro ad H locs ls ha hW hS hl
  exact lv_aload_nN hC.1 hC.2.1 hdg hi (lv_at hl k (lc_at hk)) (kk ad H locs ls ha hW hS hl)
theorem go_aloadN (hC : Cx C cc nL Ts own ret R) {i : Nat} (hdg : decode cc pc = .ok (.aload i, 2)) (k : Nat) (hk : L[k]? = some (i, .null)) (kk : Go B C ce sl (pc + 2) L (.null :: st) h) : Go B C ce sl pc L (st) h := by
  obtain ⟨p, l, e, R0, s, m, args, below, meth, c, D, cy, A, nL0, AR, Q⟩ := C
  intro ad H locs ls ha hW hS hl
  exact lv_aloadN hC.1 hC.2.1 hdg (lv_at hl k (lc_at hk)) (kk ad H locs ls ha hW hS hl)
theorem go_istore_n (hC : Cx C cc nL Ts own ret R) {f : Fin 4} {i : Nat} {x : Int32} {L' : List (Nat × Value)} (hdg : decode cc pc = .ok (.istore_n f, 1)) (hi : (f : Nat) = i) (hn : i < nL) (hL : (i, Value.int x) :: L.filter (fun q => !(q.1 == i) && !(q.1 + 1 == i && q.2.category == 2)) = L') (kk : Go B C ce sl (pc + 1) L' st h) : Go B C ce sl pc L (Value.int x :: st) h := by
  obtain ⟨p, l, e, R0, s, m, args, below, meth, c, D, cy, A, nL0, AR, Q⟩ := C
  intro ad H locs ls ha hW hS hl
  have hnn : nL0 = nL := hC.2.2.2.1
  subst hnn
  exact lv_istore_n hC.1 hC.2.1 hdg hi hl hn rfl (fun ls' hl' => kk ad H locs ls' ha hW hS (by rw [← hL, lc_st1]; exact hl'))
theorem go_istore (hC : Cx C cc nL Ts own ret R) {i : Nat} {x : Int32} {L' : List (Nat × Value)} (hdg : decode cc pc = .ok (.istore i, 2)) (hn : i < nL) (hL : (i, Value.int x) :: L.filter (fun q => !(q.1 == i) && !(q.1 + 1 == i && q.2.category == 2)) = L') (kk : Go B C ce sl (pc + 2) L' st h) : Go B C ce sl pc L (Value.int x :: st) h := by
  obtain ⟨p, l, e, R0, s, m, args, below, meth, c, D, cy, A, nL0, AR, Q⟩ := C
  intro ad H locs ls ha hW hS hl
  have hnn : nL0 = nL := hC.2.2.2.1
  subst hnn
  exact lv_istore hC.1 hC.2.1 hdg hl hn rfl (fun ls' hl' => kk ad H locs ls' ha hW hS (by rw [← hL, lc_st1]; exact hl'))
theorem go_lstore_n (hC : Cx C cc nL Ts own ret R) {f : Fin 4} {i : Nat} {x : Int64} {L' : List (Nat × Value)} (hdg : decode cc pc = .ok (.lstore_n f, 1)) (hi : (f : Nat) = i) (hn : i + 1 < nL) (hL : (i, Value.long x) :: L.filter (fun q => !(q.1 == i) && (!(q.1 == i + 1) && !(q.1 + 1 == i && q.2.category == 2))) = L') (kk : Go B C ce sl (pc + 1) L' st h) : Go B C ce sl pc L (Value.long x :: st) h := by
  obtain ⟨p, l, e, R0, s, m, args, below, meth, c, D, cy, A, nL0, AR, Q⟩ := C
  intro ad H locs ls ha hW hS hl
  have hnn : nL0 = nL := hC.2.2.2.1
  subst hnn
  exact lv_lstore_n hC.1 hC.2.1 hdg hi hl hn rfl (fun ls' hl' => kk ad H locs ls' ha hW hS (by rw [← hL, lc_st2]; exact hl'))
theorem go_lstore (hC : Cx C cc nL Ts own ret R) {i : Nat} {x : Int64} {L' : List (Nat × Value)} (hdg : decode cc pc = .ok (.lstore i, 2)) (hn : i + 1 < nL) (hL : (i, Value.long x) :: L.filter (fun q => !(q.1 == i) && (!(q.1 == i + 1) && !(q.1 + 1 == i && q.2.category == 2))) = L') (kk : Go B C ce sl (pc + 2) L' st h) : Go B C ce sl pc L (Value.long x :: st) h := by
  obtain ⟨p, l, e, R0, s, m, args, below, meth, c, D, cy, A, nL0, AR, Q⟩ := C
  intro ad H locs ls ha hW hS hl
  have hnn : nL0 = nL := hC.2.2.2.1
  subst hnn
  exact lv_lstore hC.1 hC.2.1 hdg hl hn rfl (fun ls' hl' => kk ad H locs ls' ha hW hS (by rw [← hL, lc_st2]; exact hl'))
theorem go_astore_n (hC : Cx C cc nL Ts own ret R) {f : Fin 4} {i a : Nat} {L' : List (Nat × Value)} (hdg : decode cc pc = .ok (.astore_n f, 1)) (hi : (f : Nat) = i) (hn : i < nL) (hL : (i, Value.ref a) :: L.filter (fun q => !(q.1 == i) && !(q.1 + 1 == i && q.2.category == 2)) = L') (kk : Go B C ce sl (pc + 1) L' st h) : Go B C ce sl pc L (Value.ref a :: st) h := by
  obtain ⟨p, l, e, R0, s, m, args, below, meth, c, D, cy, A, nL0, AR, Q⟩ := C
  intro ad H locs ls ha hW hS hl
  have hnn : nL0 = nL := hC.2.2.2.1
  subst hnn
  exact lv_astore_n hC.1 hC.2.1 hdg hi hl hn rfl (fun ls' hl' => kk ad H locs ls' ha hW hS (by rw [← hL, lc_st1]; exact hl'))
theorem go_astore (hC : Cx C cc nL Ts own ret R) {i a : Nat} {L' : List (Nat × Value)} (hdg : decode cc pc = .ok (.astore i, 2)) (hn : i < nL) (hL : (i, Value.ref a) :: L.filter (fun q => !(q.1 == i) && !(q.1 + 1 == i && q.2.category == 2)) = L') (kk : Go B C ce sl (pc + 2) L' st h) : Go B C ce sl pc L (Value.ref a :: st) h := by
  obtain ⟨p, l, e, R0, s, m, args, below, meth, c, D, cy, A, nL0, AR, Q⟩ := C
  intro ad H locs ls ha hW hS hl
  have hnn : nL0 = nL := hC.2.2.2.1
  subst hnn
  exact lv_astore hC.1 hC.2.1 hdg hl hn rfl (fun ls' hl' => kk ad H locs ls' ha hW hS (by rw [← hL, lc_st1]; exact hl'))
theorem go_astore_nN (hC : Cx C cc nL Ts own ret R) {f : Fin 4} {i : Nat} {L' : List (Nat × Value)} (hdg : decode cc pc = .ok (.astore_n f, 1)) (hi : (f : Nat) = i) (hn : i < nL) (hL : (i, Value.null) :: L.filter (fun q => !(q.1 == i) && !(q.1 + 1 == i && q.2.category == 2)) = L') (kk : Go B C ce sl (pc + 1) L' st h) : Go B C ce sl pc L (Value.null :: st) h := by
  obtain ⟨p, l, e, R0, s, m, args, below, meth, c, D, cy, A, nL0, AR, Q⟩ := C
  intro ad H locs ls ha hW hS hl
  have hnn : nL0 = nL := hC.2.2.2.1
  subst hnn
  exact lv_astore_nN hC.1 hC.2.1 hdg hi hl hn rfl (fun ls' hl' => kk ad H locs ls' ha hW hS (by rw [← hL, lc_st1]; exact hl'))
theorem go_astoreN (hC : Cx C cc nL Ts own ret R) {i : Nat} {L' : List (Nat × Value)} (hdg : decode cc pc = .ok (.astore i, 2)) (hn : i < nL) (hL : (i, Value.null) :: L.filter (fun q => !(q.1 == i) && !(q.1 + 1 == i && q.2.category == 2)) = L') (kk : Go B C ce sl (pc + 2) L' st h) : Go B C ce sl pc L (Value.null :: st) h := by
  obtain ⟨p, l, e, R0, s, m, args, below, meth, c, D, cy, A, nL0, AR, Q⟩ := C
  intro ad H locs ls ha hW hS hl
  have hnn : nL0 = nL := hC.2.2.2.1
  subst hnn
  exact lv_astoreN hC.1 hC.2.1 hdg hl hn rfl (fun ls' hl' => kk ad H locs ls' ha hW hS (by rw [← hL, lc_st1]; exact hl'))
theorem go_iinc (hC : Cx C cc nL Ts own ret R) {i : Nat} {n : Int} {x v d : Int32} {L' : List (Nat × Value)} (hdg : decode cc pc = .ok (.iinc i n, 3)) (k : Nat) (hk : L[k]? = some (i, .int x)) (hd : Int32.ofInt n = d) (hv : v = x + d) (hn : i < nL) (hL : (i, Value.int v) :: L.filter (fun q => !(q.1 == i) && !(q.1 + 1 == i && q.2.category == 2)) = L') (kk : Go B C ce sl (pc + 3) L' st h) : Go B C ce sl pc L st h := by
  obtain ⟨p, l, e, R0, s, m, args, below, meth, c, D, cy, A, nL0, AR, Q⟩ := C
  intro ad H locs ls ha hW hS hl
  have hnn : nL0 = nL := hC.2.2.2.1
  subst hnn
  exact lv_iinc (v := v) hC.1 hC.2.1 hdg hl (lc_at hk) (by rw [hd, hv]) hn rfl (fun ls' hl' => kk ad H locs ls' ha hW hS (by rw [← hL, lc_st1]; exact hl'))
theorem go_iadd (hC : Cx C cc nL Ts own ret R) {x y : Int32} (hdg : decode cc pc = .ok (.iadd, 1)) (kk : Go B C ce sl (pc + 1) L (.int (x + y) :: st) h) : Go B C ce sl pc L (.int y :: .int x :: st) h := by
  obtain ⟨p, l, e, R0, s, m, args, below, meth, c, D, cy, A, nL0, AR, Q⟩ := C
  intro ad H locs ls ha hW hS hl
  exact lv_iadd hC.1 hC.2.1 hdg (kk ad H locs ls ha hW hS hl)
theorem go_isub (hC : Cx C cc nL Ts own ret R) {x y : Int32} (hdg : decode cc pc = .ok (.isub, 1)) (kk : Go B C ce sl (pc + 1) L (.int (x - y) :: st) h) : Go B C ce sl pc L (.int y :: .int x :: st) h := by
  obtain ⟨p, l, e, R0, s, m, args, below, meth, c, D, cy, A, nL0, AR, Q⟩ := C
  intro ad H locs ls ha hW hS hl
  exact lv_isub hC.1 hC.2.1 hdg (kk ad H locs ls ha hW hS hl)
theorem go_imul (hC : Cx C cc nL Ts own ret R) {x y : Int32} (hdg : decode cc pc = .ok (.imul, 1)) (kk : Go B C ce sl (pc + 1) L (.int (x * y) :: st) h) : Go B C ce sl pc L (.int y :: .int x :: st) h := by
  obtain ⟨p, l, e, R0, s, m, args, below, meth, c, D, cy, A, nL0, AR, Q⟩ := C
  intro ad H locs ls ha hW hS hl
  exact lv_imul hC.1 hC.2.1 hdg (kk ad H locs ls ha hW hS hl)
theorem go_iand (hC : Cx C cc nL Ts own ret R) {x y : Int32} (hdg : decode cc pc = .ok (.iand, 1)) (kk : Go B C ce sl (pc + 1) L (.int (x &&& y) :: st) h) : Go B C ce sl pc L (.int y :: .int x :: st) h := by
  obtain ⟨p, l, e, R0, s, m, args, below, meth, c, D, cy, A, nL0, AR, Q⟩ := C
  intro ad H locs ls ha hW hS hl
  exact lv_iand hC.1 hC.2.1 hdg (kk ad H locs ls ha hW hS hl)
theorem go_ior (hC : Cx C cc nL Ts own ret R) {x y : Int32} (hdg : decode cc pc = .ok (.ior, 1)) (kk : Go B C ce sl (pc + 1) L (.int (x ||| y) :: st) h) : Go B C ce sl pc L (.int y :: .int x :: st) h := by
  obtain ⟨p, l, e, R0, s, m, args, below, meth, c, D, cy, A, nL0, AR, Q⟩ := C
  intro ad H locs ls ha hW hS hl
  exact lv_ior hC.1 hC.2.1 hdg (kk ad H locs ls ha hW hS hl)
theorem go_ixor (hC : Cx C cc nL Ts own ret R) {x y : Int32} (hdg : decode cc pc = .ok (.ixor, 1)) (kk : Go B C ce sl (pc + 1) L (.int (x ^^^ y) :: st) h) : Go B C ce sl pc L (.int y :: .int x :: st) h := by
  obtain ⟨p, l, e, R0, s, m, args, below, meth, c, D, cy, A, nL0, AR, Q⟩ := C
  intro ad H locs ls ha hW hS hl
  exact lv_ixor hC.1 hC.2.1 hdg (kk ad H locs ls ha hW hS hl)
theorem go_ishl (hC : Cx C cc nL Ts own ret R) {x y : Int32} (hdg : decode cc pc = .ok (.ishl, 1)) (kk : Go B C ce sl (pc + 1) L (.int (x <<< (y &&& 31)) :: st) h) : Go B C ce sl pc L (.int y :: .int x :: st) h := by
  obtain ⟨p, l, e, R0, s, m, args, below, meth, c, D, cy, A, nL0, AR, Q⟩ := C
  intro ad H locs ls ha hW hS hl
  exact lv_ishl hC.1 hC.2.1 hdg (kk ad H locs ls ha hW hS hl)
theorem go_ishr (hC : Cx C cc nL Ts own ret R) {x y : Int32} (hdg : decode cc pc = .ok (.ishr, 1)) (kk : Go B C ce sl (pc + 1) L (.int (x >>> (y &&& 31)) :: st) h) : Go B C ce sl pc L (.int y :: .int x :: st) h := by
  obtain ⟨p, l, e, R0, s, m, args, below, meth, c, D, cy, A, nL0, AR, Q⟩ := C
  intro ad H locs ls ha hW hS hl
  exact lv_ishr hC.1 hC.2.1 hdg (kk ad H locs ls ha hW hS hl)
theorem go_ladd (hC : Cx C cc nL Ts own ret R) {x y : Int64} (hdg : decode cc pc = .ok (.ladd, 1)) (kk : Go B C ce sl (pc + 1) L (.long (x + y) :: st) h) : Go B C ce sl pc L (.long y :: .long x :: st) h := by
  obtain ⟨p, l, e, R0, s, m, args, below, meth, c, D, cy, A, nL0, AR, Q⟩ := C
  intro ad H locs ls ha hW hS hl
  exact lv_ladd hC.1 hC.2.1 hdg (kk ad H locs ls ha hW hS hl)
theorem go_lsub (hC : Cx C cc nL Ts own ret R) {x y : Int64} (hdg : decode cc pc = .ok (.lsub, 1)) (kk : Go B C ce sl (pc + 1) L (.long (x - y) :: st) h) : Go B C ce sl pc L (.long y :: .long x :: st) h := by
  obtain ⟨p, l, e, R0, s, m, args, below, meth, c, D, cy, A, nL0, AR, Q⟩ := C
  intro ad H locs ls ha hW hS hl
  exact lv_lsub hC.1 hC.2.1 hdg (kk ad H locs ls ha hW hS hl)
theorem go_lmul (hC : Cx C cc nL Ts own ret R) {x y : Int64} (hdg : decode cc pc = .ok (.lmul, 1)) (kk : Go B C ce sl (pc + 1) L (.long (x * y) :: st) h) : Go B C ce sl pc L (.long y :: .long x :: st) h := by
  obtain ⟨p, l, e, R0, s, m, args, below, meth, c, D, cy, A, nL0, AR, Q⟩ := C
  intro ad H locs ls ha hW hS hl
  exact lv_lmul hC.1 hC.2.1 hdg (kk ad H locs ls ha hW hS hl)
theorem go_idiv (hC : Cx C cc nL Ts own ret R) {x y : Int32} (hdg : decode cc pc = .ok (.idiv, 1)) (hne : ¬ y = 0) (kk : Go B C ce sl (pc + 1) L (.int (x / y) :: st) h) : Go B C ce sl pc L (.int y :: .int x :: st) h := by
  obtain ⟨p, l, e, R0, s, m, args, below, meth, c, D, cy, A, nL0, AR, Q⟩ := C
  intro ad H locs ls ha hW hS hl
  exact lv_idiv hC.1 hC.2.1 hdg hne (kk ad H locs ls ha hW hS hl)
theorem go_irem (hC : Cx C cc nL Ts own ret R) {x y : Int32} (hdg : decode cc pc = .ok (.irem, 1)) (hne : ¬ y = 0) (kk : Go B C ce sl (pc + 1) L (.int (x - x / y * y) :: st) h) : Go B C ce sl pc L (.int y :: .int x :: st) h := by
  obtain ⟨p, l, e, R0, s, m, args, below, meth, c, D, cy, A, nL0, AR, Q⟩ := C
  intro ad H locs ls ha hW hS hl
  exact lv_irem hC.1 hC.2.1 hdg hne (kk ad H locs ls ha hW hS hl)
theorem go_ldiv (hC : Cx C cc nL Ts own ret R) {x y : Int64} (hdg : decode cc pc = .ok (.ldiv, 1)) (hne : ¬ y = 0) (kk : Go B C ce sl (pc + 1) L (.long (x / y) :: st) h) : Go B C ce sl pc L (.long y :: .long x :: st) h := by
  obtain ⟨p, l, e, R0, s, m, args, below, meth, c, D, cy, A, nL0, AR, Q⟩ := C
  intro ad H locs ls ha hW hS hl
  exact lv_ldiv hC.1 hC.2.1 hdg hne (kk ad H locs ls ha hW hS hl)
theorem go_lrem (hC : Cx C cc nL Ts own ret R) {x y : Int64} (hdg : decode cc pc = .ok (.lrem, 1)) (hne : ¬ y = 0) (kk : Go B C ce sl (pc + 1) L (.long (x - x / y * y) :: st) h) : Go B C ce sl pc L (.long y :: .long x :: st) h := by
  obtain ⟨p, l, e, R0, s, m, args, below, meth, c, D, cy, A, nL0, AR, Q⟩ := C
  intro ad H locs ls ha hW hS hl
  exact lv_lrem hC.1 hC.2.1 hdg hne (kk ad H locs ls ha hW hS hl)
theorem go_lneg (hC : Cx C cc nL Ts own ret R) {x : Int64} (hdg : decode cc pc = .ok (.lneg, 1)) (kk : Go B C ce sl (pc + 1) L (.long (-x) :: st) h) : Go B C ce sl pc L (.long x :: st) h := by
  obtain ⟨p, l, e, R0, s, m, args, below, meth, c, D, cy, A, nL0, AR, Q⟩ := C
  intro ad H locs ls ha hW hS hl
  exact lv_lneg hC.1 hC.2.1 hdg (kk ad H locs ls ha hW hS hl)
theorem go_lshl (hC : Cx C cc nL Ts own ret R) {x : Int64} {y : Int32} (hdg : decode cc pc = .ok (.lshl, 1)) (kk : Go B C ce sl (pc + 1) L (.long (x <<< (y.toInt64 &&& 63)) :: st) h) : Go B C ce sl pc L (.int y :: .long x :: st) h := by
  obtain ⟨p, l, e, R0, s, m, args, below, meth, c, D, cy, A, nL0, AR, Q⟩ := C
  intro ad H locs ls ha hW hS hl
  exact lv_lshl hC.1 hC.2.1 hdg rfl (kk ad H locs ls ha hW hS hl)
theorem go_iushr (hC : Cx C cc nL Ts own ret R) {x y : Int32} (hdg : decode cc pc = .ok (.iushr, 1)) (kk : Go B C ce sl (pc + 1) L (.int (x.toUInt32 >>> (y.toUInt32 &&& Int32.toUInt32 31)).toInt32 :: st) h) : Go B C ce sl pc L (.int y :: .int x :: st) h := by
  obtain ⟨p, l, e, R0, s, m, args, below, meth, c, D, cy, A, nL0, AR, Q⟩ := C
  intro ad H locs ls ha hW hS hl
  exact lv_iushr hC.1 hC.2.1 hdg rfl (kk ad H locs ls ha hW hS hl)
theorem go_i2l (hC : Cx C cc nL Ts own ret R) {x : Int32} (hdg : decode cc pc = .ok (.i2l, 1)) (kk : Go B C ce sl (pc + 1) L (.long x.toInt64 :: st) h) : Go B C ce sl pc L (.int x :: st) h := by
  obtain ⟨p, l, e, R0, s, m, args, below, meth, c, D, cy, A, nL0, AR, Q⟩ := C
  intro ad H locs ls ha hW hS hl
  exact lv_i2l hC.1 hC.2.1 hdg rfl (kk ad H locs ls ha hW hS hl)
theorem go_l2i (hC : Cx C cc nL Ts own ret R) {x : Int64} (hdg : decode cc pc = .ok (.l2i, 1)) (kk : Go B C ce sl (pc + 1) L (.int x.toInt32 :: st) h) : Go B C ce sl pc L (.long x :: st) h := by
  obtain ⟨p, l, e, R0, s, m, args, below, meth, c, D, cy, A, nL0, AR, Q⟩ := C
  intro ad H locs ls ha hW hS hl
  exact lv_l2i hC.1 hC.2.1 hdg rfl (kk ad H locs ls ha hW hS hl)
theorem go_i2b (hC : Cx C cc nL Ts own ret R) {x : Int32} (hdg : decode cc pc = .ok (.i2b, 1)) (kk : Go B C ce sl (pc + 1) L (.int x.toInt8.toInt32 :: st) h) : Go B C ce sl pc L (.int x :: st) h := by
  obtain ⟨p, l, e, R0, s, m, args, below, meth, c, D, cy, A, nL0, AR, Q⟩ := C
  intro ad H locs ls ha hW hS hl
  exact lv_i2b hC.1 hC.2.1 hdg rfl (kk ad H locs ls ha hW hS hl)
theorem go_i2s (hC : Cx C cc nL Ts own ret R) {x : Int32} (hdg : decode cc pc = .ok (.i2s, 1)) (kk : Go B C ce sl (pc + 1) L (.int x.toInt16.toInt32 :: st) h) : Go B C ce sl pc L (.int x :: st) h := by
  obtain ⟨p, l, e, R0, s, m, args, below, meth, c, D, cy, A, nL0, AR, Q⟩ := C
  intro ad H locs ls ha hW hS hl
  exact lv_i2s hC.1 hC.2.1 hdg rfl (kk ad H locs ls ha hW hS hl)
theorem go_dup (hC : Cx C cc nL Ts own ret R) {v : Value} (hdg : decode cc pc = .ok (.dup, 1)) (hv : v.category = 1) (kk : Go B C ce sl (pc + 1) L (v :: v :: st) h) : Go B C ce sl pc L (v :: st) h := by
  obtain ⟨p, l, e, R0, s, m, args, below, meth, c, D, cy, A, nL0, AR, Q⟩ := C
  intro ad H locs ls ha hW hS hl
  exact lv_dup hC.1 hC.2.1 hdg ((pv_cat ad v).trans hv) (kk ad H locs ls ha hW hS hl)
theorem go_dup2 (hC : Cx C cc nL Ts own ret R) {v w : Value} (hdg : decode cc pc = .ok (.dup2, 1)) (hv : v.category = 1) (hw : w.category = 1) (kk : Go B C ce sl (pc + 1) L (v :: w :: v :: w :: st) h) : Go B C ce sl pc L (v :: w :: st) h := by
  obtain ⟨p, l, e, R0, s, m, args, below, meth, c, D, cy, A, nL0, AR, Q⟩ := C
  intro ad H locs ls ha hW hS hl
  exact lv_dup2_11 hC.1 hC.2.1 hdg ((pv_cat ad v).trans hv) ((pv_cat ad w).trans hw) (kk ad H locs ls ha hW hS hl)
theorem go_null (hC : Cx C cc nL Ts own ret R) (hdg : decode cc pc = .ok (.aconst_null, 1)) (kk : Go B C ce sl (pc + 1) L (.null :: st) h) : Go B C ce sl pc L (st) h := by
  obtain ⟨p, l, e, R0, s, m, args, below, meth, c, D, cy, A, nL0, AR, Q⟩ := C
  intro ad H locs ls ha hW hS hl
  exact lv_null hC.1 hC.2.1 hdg (kk ad H locs ls ha hW hS hl)
theorem go_lcmp (hC : Cx C cc nL Ts own ret R) {x y : Int64} (hdg : decode cc pc = .ok (.lcmp, 1)) (kk : Go B C ce sl (pc + 1) L (.int (lg_cmp x y) :: st) h) : Go B C ce sl pc L (.long y :: .long x :: st) h := by
  obtain ⟨p, l, e, R0, s, m, args, below, meth, c, D, cy, A, nL0, AR, Q⟩ := C
  intro ad H locs ls ha hW hS hl
  exact W.lcmp hC.1 hC.2.1 hdg (kk ad H locs ls ha hW hS hl)
theorem go_if_eq (hC : Cx C cc nL Ts own ret R) {x : Int32} {off : Int} {tgt : Nat} (hdg : decode cc pc = .ok (.ifCond .eq off, 3)) (ht : (pc : Int) + off = (tgt : Int)) (kt : x = 0 → Go B C ce sl tgt L st h) (kf : ¬ x = 0 → Go B C ce sl (pc + 3) L st h) : Go B C ce sl pc L (.int x :: st) h := by
  obtain ⟨p, l, e, R0, s, m, args, below, meth, c, D, cy, A, nL0, AR, Q⟩ := C
  intro ad H locs ls ha hW hS hl
  exact lv_if_eq hC.1 hC.2.1 hdg ht (fun q => kt q ad H locs ls ha hW hS hl) (fun q => kf q ad H locs ls ha hW hS hl)
theorem go_icmp_eq (hC : Cx C cc nL Ts own ret R) {x y : Int32} {off : Int} {tgt : Nat} (hdg : decode cc pc = .ok (.if_icmp .eq off, 3)) (ht : (pc : Int) + off = (tgt : Int)) (kt : x = y → Go B C ce sl tgt L st h) (kf : ¬ x = y → Go B C ce sl (pc + 3) L st h) : Go B C ce sl pc L (.int y :: .int x :: st) h := by
  obtain ⟨p, l, e, R0, s, m, args, below, meth, c, D, cy, A, nL0, AR, Q⟩ := C
  intro ad H locs ls ha hW hS hl
  exact lv_icmp_eq hC.1 hC.2.1 hdg ht (fun q => kt q ad H locs ls ha hW hS hl) (fun q => kf q ad H locs ls ha hW hS hl)
theorem go_if_ne (hC : Cx C cc nL Ts own ret R) {x : Int32} {off : Int} {tgt : Nat} (hdg : decode cc pc = .ok (.ifCond .ne off, 3)) (ht : (pc : Int) + off = (tgt : Int)) (kt : ¬ x = 0 → Go B C ce sl tgt L st h) (kf : x = 0 → Go B C ce sl (pc + 3) L st h) : Go B C ce sl pc L (.int x :: st) h := by
  obtain ⟨p, l, e, R0, s, m, args, below, meth, c, D, cy, A, nL0, AR, Q⟩ := C
  intro ad H locs ls ha hW hS hl
  exact lv_if_ne hC.1 hC.2.1 hdg ht (fun q => kt q ad H locs ls ha hW hS hl) (fun q => kf q ad H locs ls ha hW hS hl)
theorem go_icmp_ne (hC : Cx C cc nL Ts own ret R) {x y : Int32} {off : Int} {tgt : Nat} (hdg : decode cc pc = .ok (.if_icmp .ne off, 3)) (ht : (pc : Int) + off = (tgt : Int)) (kt : ¬ x = y → Go B C ce sl tgt L st h) (kf : x = y → Go B C ce sl (pc + 3) L st h) : Go B C ce sl pc L (.int y :: .int x :: st) h := by
  obtain ⟨p, l, e, R0, s, m, args, below, meth, c, D, cy, A, nL0, AR, Q⟩ := C
  intro ad H locs ls ha hW hS hl
  exact lv_icmp_ne hC.1 hC.2.1 hdg ht (fun q => kt q ad H locs ls ha hW hS hl) (fun q => kf q ad H locs ls ha hW hS hl)
theorem go_if_lt (hC : Cx C cc nL Ts own ret R) {x : Int32} {off : Int} {tgt : Nat} (hdg : decode cc pc = .ok (.ifCond .lt off, 3)) (ht : (pc : Int) + off = (tgt : Int)) (kt : x < 0 → Go B C ce sl tgt L st h) (kf : ¬ x < 0 → Go B C ce sl (pc + 3) L st h) : Go B C ce sl pc L (.int x :: st) h := by
  obtain ⟨p, l, e, R0, s, m, args, below, meth, c, D, cy, A, nL0, AR, Q⟩ := C
  intro ad H locs ls ha hW hS hl
  exact lv_if_lt hC.1 hC.2.1 hdg ht (fun q => kt q ad H locs ls ha hW hS hl) (fun q => kf q ad H locs ls ha hW hS hl)
theorem go_icmp_lt (hC : Cx C cc nL Ts own ret R) {x y : Int32} {off : Int} {tgt : Nat} (hdg : decode cc pc = .ok (.if_icmp .lt off, 3)) (ht : (pc : Int) + off = (tgt : Int)) (kt : x < y → Go B C ce sl tgt L st h) (kf : ¬ x < y → Go B C ce sl (pc + 3) L st h) : Go B C ce sl pc L (.int y :: .int x :: st) h := by
  obtain ⟨p, l, e, R0, s, m, args, below, meth, c, D, cy, A, nL0, AR, Q⟩ := C
  intro ad H locs ls ha hW hS hl
  exact lv_icmp_lt hC.1 hC.2.1 hdg ht (fun q => kt q ad H locs ls ha hW hS hl) (fun q => kf q ad H locs ls ha hW hS hl)
theorem go_if_ge (hC : Cx C cc nL Ts own ret R) {x : Int32} {off : Int} {tgt : Nat} (hdg : decode cc pc = .ok (.ifCond .ge off, 3)) (ht : (pc : Int) + off = (tgt : Int)) (kt : 0 ≤ x → Go B C ce sl tgt L st h) (kf : ¬ 0 ≤ x → Go B C ce sl (pc + 3) L st h) : Go B C ce sl pc L (.int x :: st) h := by
  obtain ⟨p, l, e, R0, s, m, args, below, meth, c, D, cy, A, nL0, AR, Q⟩ := C
  intro ad H locs ls ha hW hS hl
  exact lv_if_ge hC.1 hC.2.1 hdg ht (fun q => kt q ad H locs ls ha hW hS hl) (fun q => kf q ad H locs ls ha hW hS hl)
theorem go_icmp_ge (hC : Cx C cc nL Ts own ret R) {x y : Int32} {off : Int} {tgt : Nat} (hdg : decode cc pc = .ok (.if_icmp .ge off, 3)) (ht : (pc : Int) + off = (tgt : Int)) (kt : y ≤ x → Go B C ce sl tgt L st h) (kf : ¬ y ≤ x → Go B C ce sl (pc + 3) L st h) : Go B C ce sl pc L (.int y :: .int x :: st) h := by
  obtain ⟨p, l, e, R0, s, m, args, below, meth, c, D, cy, A, nL0, AR, Q⟩ := C
  intro ad H locs ls ha hW hS hl
  exact lv_icmp_ge hC.1 hC.2.1 hdg ht (fun q => kt q ad H locs ls ha hW hS hl) (fun q => kf q ad H locs ls ha hW hS hl)
theorem go_if_gt (hC : Cx C cc nL Ts own ret R) {x : Int32} {off : Int} {tgt : Nat} (hdg : decode cc pc = .ok (.ifCond .gt off, 3)) (ht : (pc : Int) + off = (tgt : Int)) (kt : 0 < x → Go B C ce sl tgt L st h) (kf : ¬ 0 < x → Go B C ce sl (pc + 3) L st h) : Go B C ce sl pc L (.int x :: st) h := by
  obtain ⟨p, l, e, R0, s, m, args, below, meth, c, D, cy, A, nL0, AR, Q⟩ := C
  intro ad H locs ls ha hW hS hl
  exact lv_if_gt hC.1 hC.2.1 hdg ht (fun q => kt q ad H locs ls ha hW hS hl) (fun q => kf q ad H locs ls ha hW hS hl)
theorem go_icmp_gt (hC : Cx C cc nL Ts own ret R) {x y : Int32} {off : Int} {tgt : Nat} (hdg : decode cc pc = .ok (.if_icmp .gt off, 3)) (ht : (pc : Int) + off = (tgt : Int)) (kt : y < x → Go B C ce sl tgt L st h) (kf : ¬ y < x → Go B C ce sl (pc + 3) L st h) : Go B C ce sl pc L (.int y :: .int x :: st) h := by
  obtain ⟨p, l, e, R0, s, m, args, below, meth, c, D, cy, A, nL0, AR, Q⟩ := C
  intro ad H locs ls ha hW hS hl
  exact lv_icmp_gt hC.1 hC.2.1 hdg ht (fun q => kt q ad H locs ls ha hW hS hl) (fun q => kf q ad H locs ls ha hW hS hl)
theorem go_if_le (hC : Cx C cc nL Ts own ret R) {x : Int32} {off : Int} {tgt : Nat} (hdg : decode cc pc = .ok (.ifCond .le off, 3)) (ht : (pc : Int) + off = (tgt : Int)) (kt : x ≤ 0 → Go B C ce sl tgt L st h) (kf : ¬ x ≤ 0 → Go B C ce sl (pc + 3) L st h) : Go B C ce sl pc L (.int x :: st) h := by
  obtain ⟨p, l, e, R0, s, m, args, below, meth, c, D, cy, A, nL0, AR, Q⟩ := C
  intro ad H locs ls ha hW hS hl
  exact lv_if_le hC.1 hC.2.1 hdg ht (fun q => kt q ad H locs ls ha hW hS hl) (fun q => kf q ad H locs ls ha hW hS hl)
theorem go_icmp_le (hC : Cx C cc nL Ts own ret R) {x y : Int32} {off : Int} {tgt : Nat} (hdg : decode cc pc = .ok (.if_icmp .le off, 3)) (ht : (pc : Int) + off = (tgt : Int)) (kt : x ≤ y → Go B C ce sl tgt L st h) (kf : ¬ x ≤ y → Go B C ce sl (pc + 3) L st h) : Go B C ce sl pc L (.int y :: .int x :: st) h := by
  obtain ⟨p, l, e, R0, s, m, args, below, meth, c, D, cy, A, nL0, AR, Q⟩ := C
  intro ad H locs ls ha hW hS hl
  exact lv_icmp_le hC.1 hC.2.1 hdg ht (fun q => kt q ad H locs ls ha hW hS hl) (fun q => kf q ad H locs ls ha hW hS hl)
theorem go_goto (hC : Cx C cc nL Ts own ret R) {off : Int} {tgt : Nat} (hdg : decode cc pc = .ok (.goto off, 3)) (ht : (pc : Int) + off = (tgt : Int)) (kk : Go B C ce sl tgt L st h) : Go B C ce sl pc L (st) h := by
  obtain ⟨p, l, e, R0, s, m, args, below, meth, c, D, cy, A, nL0, AR, Q⟩ := C
  intro ad H locs ls ha hW hS hl
  exact lv_goto hC.1 hC.2.1 hdg ht (kk ad H locs ls ha hW hS hl)
theorem go_ifnull (hC : Cx C cc nL Ts own ret R) {a : Nat} {off : Int} (hdg : decode cc pc = .ok (.ifnull off, 3)) (kk : Go B C ce sl (pc + 3) L st h) : Go B C ce sl pc L (.ref a :: st) h := by
  obtain ⟨p, l, e, R0, s, m, args, below, meth, c, D, cy, A, nL0, AR, Q⟩ := C
  intro ad H locs ls ha hW hS hl
  exact lv_ifnull hC.1 hC.2.1 hdg (kk ad H locs ls ha hW hS hl)
theorem go_ifnullN (hC : Cx C cc nL Ts own ret R) {off : Int} {tgt : Nat} (hdg : decode cc pc = .ok (.ifnull off, 3)) (ht : (pc : Int) + off = (tgt : Int)) (kk : Go B C ce sl tgt L st h) : Go B C ce sl pc L (.null :: st) h := by
  obtain ⟨p, l, e, R0, s, m, args, below, meth, c, D, cy, A, nL0, AR, Q⟩ := C
  intro ad H locs ls ha hW hS hl
  exact lv_ifnullN hC.1 hC.2.1 hdg ht (kk ad H locs ls ha hW hS hl)
theorem go_ifnonnull (hC : Cx C cc nL Ts own ret R) {a : Nat} {off : Int} {tgt : Nat} (hdg : decode cc pc = .ok (.ifnonnull off, 3)) (ht : (pc : Int) + off = (tgt : Int)) (kk : Go B C ce sl tgt L st h) : Go B C ce sl pc L (.ref a :: st) h := by
  obtain ⟨p, l, e, R0, s, m, args, below, meth, c, D, cy, A, nL0, AR, Q⟩ := C
  intro ad H locs ls ha hW hS hl
  exact lv_ifnonnull hC.1 hC.2.1 hdg ht (kk ad H locs ls ha hW hS hl)
theorem go_ifnonnullN (hC : Cx C cc nL Ts own ret R) {off : Int} (hdg : decode cc pc = .ok (.ifnonnull off, 3)) (kk : Go B C ce sl (pc + 3) L st h) : Go B C ce sl pc L (.null :: st) h := by
  obtain ⟨p, l, e, R0, s, m, args, below, meth, c, D, cy, A, nL0, AR, Q⟩ := C
  intro ad H locs ls ha hW hS hl
  exact lv_ifnonnullN hC.1 hC.2.1 hdg (kk ad H locs ls ha hW hS hl)
theorem go_tabIn (hC : Cx C cc nL Ts own ret R) {dflt lo hi : Int} {offs : Array Int} {len : Nat} {x : Int32} {off : Int} {tgt : Nat} (hdg : decode cc pc = .ok (.tableswitch dflt lo hi offs, len)) (h1 : ¬ x.toInt < lo) (h2 : ¬ hi < x.toInt) (ho : offs[(x.toInt - lo).toNat]? = some off) (ht : (pc : Int) + off = (tgt : Int)) (kk : Go B C ce sl tgt L st h) : Go B C ce sl pc L (.int x :: st) h := by
  obtain ⟨p, l, e, R0, s, m, args, below, meth, c, D, cy, A, nL0, AR, Q⟩ := C
  intro ad H locs ls ha hW hS hl
  exact lv_tableIn hC.1 hC.2.1 hdg h1 h2 ho ht (kk ad H locs ls ha hW hS hl)
theorem go_tabOut (hC : Cx C cc nL Ts own ret R) {dflt lo hi : Int} {offs : Array Int} {len : Nat} {x : Int32} {tgt : Nat} (hdg : decode cc pc = .ok (.tableswitch dflt lo hi offs, len)) (h1 : x.toInt < lo ∨ hi < x.toInt) (ht : (pc : Int) + dflt = (tgt : Int)) (kk : Go B C ce sl tgt L st h) : Go B C ce sl pc L (.int x :: st) h := by
  obtain ⟨p, l, e, R0, s, m, args, below, meth, c, D, cy, A, nL0, AR, Q⟩ := C
  intro ad H locs ls ha hW hS hl
  exact lv_tableOut hC.1 hC.2.1 hdg h1 ht (kk ad H locs ls ha hW hS hl)
theorem go_ldc (hC : Cx C cc nL Ts own ret R) {idx : Nat} {v : Int32} (hw : Cond.constant own idx v ∈ Ts) (hdg : decode cc pc = .ok (.ldc idx, 2)) (kk : Go B C ce sl (pc + 2) L (.int v :: st) h) : Go B C ce sl pc L st h := by
  obtain ⟨p, l, e, R0, s, m, args, below, meth, c, D, cy, A, nL0, AR, Q⟩ := C
  intro ad H locs ls ha hW hS hl
  exact lv_ldc hC.1 hC.2.1 hC.2.2.2.2.2.1 (hC.2.2.2.2.2.2.1 _ hw) hdg (kk ad H locs ls ha hW hS hl)
theorem go_ldcw (hC : Cx C cc nL Ts own ret R) {idx : Nat} {v : Int32} (hw : Cond.constant own idx v ∈ Ts) (hdg : decode cc pc = .ok (.ldc_w idx, 3)) (kk : Go B C ce sl (pc + 3) L (.int v :: st) h) : Go B C ce sl pc L st h := by
  obtain ⟨p, l, e, R0, s, m, args, below, meth, c, D, cy, A, nL0, AR, Q⟩ := C
  intro ad H locs ls ha hW hS hl
  exact lv_ldcw hC.1 hC.2.1 hC.2.2.2.2.2.1 (hC.2.2.2.2.2.2.1 _ hw) hdg (kk ad H locs ls ha hW hS hl)
theorem go_ldc2 (hC : Cx C cc nL Ts own ret R) {idx : Nat} {v : Int64} (hw : Cond.constantLong own idx v ∈ Ts) (hdg : decode cc pc = .ok (.ldc2_w idx, 3)) (kk : Go B C ce sl (pc + 3) L (.long v :: st) h) : Go B C ce sl pc L st h := by
  obtain ⟨p, l, e, R0, s, m, args, below, meth, c, D, cy, A, nL0, AR, Q⟩ := C
  intro ad H locs ls ha hW hS hl
  exact lv_ldc2 hC.1 hC.2.1 hC.2.2.2.2.2.1 (hC.2.2.2.2.2.2.1 _ hw) hdg (kk ad H locs ls ha hW hS hl)
theorem go_geti (hC : Cx C cc nL Ts own ret R) {k j z ci idx N : Nat} {ks : List (Nat × Nat)} {ref Cn nm ds : String} {T : u_T} (hB : (B ++ h.2.2.2)[k]? = some (.inr (ci, ks))) (hk : ks[j]? = some (0, z)) (hcl : vwCl[ci]? = some (Cn, T, N)) (hin : ∀ w ∈ u_ws Cn T N, w ∈ Ts) (hj : j < N) (hnm : (T j).2.1 = nm) (hds : (T j).2.2.1 = ds) (hw : Cond.fieldLink own idx ref nm ds ∈ Ts) (hsame : (T j).1 = ref ∨ Cond.sameField ref (T j).1 nm ds ∈ Ts) (hdg : decode cc pc = .ok (.getfield idx, 3)) (kk : Go B C ce sl (pc + 3) L (.int (h.1 k j) :: st) h) : Go B C ce sl pc L (.ref k :: st) h := by
  obtain ⟨p, l, e, R0, s, m, args, below, meth, c, D, cy, A, nL0, AR, Q⟩ := C
  intro ad H locs ls ha hW hS hl
  subst hnm
  subst hds
  exact va_get hC.1 hC.2.1 hC.2.2.2.2.2.2.1 hin hC.2.2.2.2.2.1 hC.2.2.2.2.2.2.2.1.1 hW.1 k (wl_get hB) hcl j hj (hC.2.2.2.2.2.2.1 _ hw) (sf_e hC.2.2.2.2.2.2.1 hsame) (by rw [List.getElem?_mapIdx, hk]; exact congrArg some (pf_0 _ _ _ _ _)) hdg (kk ad H locs ls ha hW hS hl)
theorem go_getl (hC : Cx C cc nL Ts own ret R) {k j z ci idx N : Nat} {ks : List (Nat × Nat)} {ref Cn nm ds : String} {T : u_T} (hB : (B ++ h.2.2.2)[k]? = some (.inr (ci, ks))) (hk : ks[j]? = some (1, z)) (hcl : vwCl[ci]? = some (Cn, T, N)) (hin : ∀ w ∈ u_ws Cn T N, w ∈ Ts) (hj : j < N) (hnm : (T j).2.1 = nm) (hds : (T j).2.2.1 = ds) (hw : Cond.fieldLink own idx ref nm ds ∈ Ts) (hsame : (T j).1 = ref ∨ Cond.sameField ref (T j).1 nm ds ∈ Ts) (hdg : decode cc pc = .ok (.getfield idx, 3)) (kk : Go B C ce sl (pc + 3) L (.long (h.2.1 k j) :: st) h) : Go B C ce sl pc L (.ref k :: st) h := by
  obtain ⟨p, l, e, R0, s, m, args, below, meth, c, D, cy, A, nL0, AR, Q⟩ := C
  intro ad H locs ls ha hW hS hl
  subst hnm
  subst hds
  exact va_get hC.1 hC.2.1 hC.2.2.2.2.2.2.1 hin hC.2.2.2.2.2.1 hC.2.2.2.2.2.2.2.1.1 hW.1 k (wl_get hB) hcl j hj (hC.2.2.2.2.2.2.1 _ hw) (sf_e hC.2.2.2.2.2.2.1 hsame) (by rw [List.getElem?_mapIdx, hk]; exact congrArg some (pf_1 _ _ _ _ _)) hdg (kk ad H locs ls ha hW hS hl)
theorem go_getr (hC : Cx C cc nL Ts own ret R) {k j z ci idx N : Nat} {ks : List (Nat × Nat)} {ref Cn nm ds : String} {T : u_T} (hB : (B ++ h.2.2.2)[k]? = some (.inr (ci, ks))) (hk : ks[j]? = some (3, z)) (hcl : vwCl[ci]? = some (Cn, T, N)) (hin : ∀ w ∈ u_ws Cn T N, w ∈ Ts) (hj : j < N) (hnm : (T j).2.1 = nm) (hds : (T j).2.2.1 = ds) (hw : Cond.fieldLink own idx ref nm ds ∈ Ts) (hsame : (T j).1 = ref ∨ Cond.sameField ref (T j).1 nm ds ∈ Ts) (hdg : decode cc pc = .ok (.getfield idx, 3)) (kk : Go B C ce sl (pc + 3) L (.ref z :: st) h) : Go B C ce sl pc L (.ref k :: st) h := by
  obtain ⟨p, l, e, R0, s, m, args, below, meth, c, D, cy, A, nL0, AR, Q⟩ := C
  intro ad H locs ls ha hW hS hl
  subst hnm
  subst hds
  exact va_get hC.1 hC.2.1 hC.2.2.2.2.2.2.1 hin hC.2.2.2.2.2.1 hC.2.2.2.2.2.2.2.1.1 hW.1 k (wl_get hB) hcl j hj (hC.2.2.2.2.2.2.1 _ hw) (sf_e hC.2.2.2.2.2.2.1 hsame) (by rw [List.getElem?_mapIdx, hk]; exact congrArg some (pf_3 _ _ _ _ _)) hdg (kk ad H locs ls ha hW hS hl)
theorem go_geto (hC : Cx C cc nL Ts own ret R) {k j z ci idx N : Nat} {ks : List (Nat × Nat)} {ref Cn nm ds : String} {T : u_T} (hB : (B ++ h.2.2.2)[k]? = some (.inr (ci, ks))) (hk : ks[j]? = some (2, z)) (hcl : vwCl[ci]? = some (Cn, T, N)) (hin : ∀ w ∈ u_ws Cn T N, w ∈ Ts) (hj : j < N) (hnm : (T j).2.1 = nm) (hds : (T j).2.2.1 = ds) (hw : Cond.fieldLink own idx ref nm ds ∈ Ts) (hsame : (T j).1 = ref ∨ Cond.sameField ref (T j).1 nm ds ∈ Ts) (hz : ¬ h.1 k j = 0) (hdg : decode cc pc = .ok (.getfield idx, 3)) (kk : Go B C ce sl (pc + 3) L (.ref z :: st) h) : Go B C ce sl pc L (.ref k :: st) h := by
  obtain ⟨p, l, e, R0, s, m, args, below, meth, c, D, cy, A, nL0, AR, Q⟩ := C
  intro ad H locs ls ha hW hS hl
  subst hnm
  subst hds
  exact va_get hC.1 hC.2.1 hC.2.2.2.2.2.2.1 hin hC.2.2.2.2.2.1 hC.2.2.2.2.2.2.2.1.1 hW.1 k (wl_get hB) hcl j hj (hC.2.2.2.2.2.2.1 _ hw) (sf_e hC.2.2.2.2.2.2.1 hsame) (by rw [List.getElem?_mapIdx, hk]; exact congrArg some (pf_2s _ _ _ hz)) hdg (kk ad H locs ls ha hW hS hl)
theorem go_getn (hC : Cx C cc nL Ts own ret R) {k j z ci idx N : Nat} {ks : List (Nat × Nat)} {ref Cn nm ds : String} {T : u_T} (hB : (B ++ h.2.2.2)[k]? = some (.inr (ci, ks))) (hk : ks[j]? = some (2, z)) (hcl : vwCl[ci]? = some (Cn, T, N)) (hin : ∀ w ∈ u_ws Cn T N, w ∈ Ts) (hj : j < N) (hnm : (T j).2.1 = nm) (hds : (T j).2.2.1 = ds) (hw : Cond.fieldLink own idx ref nm ds ∈ Ts) (hsame : (T j).1 = ref ∨ Cond.sameField ref (T j).1 nm ds ∈ Ts) (hz : h.1 k j = 0) (hdg : decode cc pc = .ok (.getfield idx, 3)) (kk : Go B C ce sl (pc + 3) L (.null :: st) h) : Go B C ce sl pc L (.ref k :: st) h := by
  obtain ⟨p, l, e, R0, s, m, args, below, meth, c, D, cy, A, nL0, AR, Q⟩ := C
  intro ad H locs ls ha hW hS hl
  subst hnm
  subst hds
  exact va_get hC.1 hC.2.1 hC.2.2.2.2.2.2.1 hin hC.2.2.2.2.2.1 hC.2.2.2.2.2.2.2.1.1 hW.1 k (wl_get hB) hcl j hj (hC.2.2.2.2.2.2.1 _ hw) (sf_e hC.2.2.2.2.2.2.1 hsame) (by rw [List.getElem?_mapIdx, hk]; exact congrArg some (pf_2n _ _ _ hz)) hdg (kk ad H locs ls ha hW hS hl)
theorem go_puti (hC : Cx C cc nL Ts own ret R) {k j z ci idx N : Nat} {ks : List (Nat × Nat)} {ref Cn nm ds : String} {T : u_T} {v : Int32} (ty0 : Nat → FieldType) (hB : (B ++ h.2.2.2)[k]? = some (.inr (ci, ks))) (hk : ks[j]? = some (0, z)) (hcl : vwCl[ci]? = some (Cn, T, N)) (hin : ∀ w ∈ u_ws Cn T N, w ∈ Ts) (hty0 : ∀ k, k < N → parseFieldDescriptor (T k).2.2.1 = some (ty0 k)) (hnms : ∀ a, a < N → ∀ b, b < N → a ≠ b → (T a).2.1 ≠ (T b).2.1) (hj : j < N) (hnm : (T j).2.1 = nm) (hds : (T j).2.2.1 = ds) (hw : Cond.fieldLink own idx ref nm ds ∈ Ts) (hsame : (T j).1 = ref ∨ Cond.sameField ref (T j).1 nm ds ∈ Ts) (hfin : (T j).2.2.2 = false) (hty : parseFieldDescriptor (T j).2.2.1 = some .int) (hdg : decode cc pc = .ok (.putfield idx, 3)) (kk : Go B C ce sl (pc + 3) L st (ph_i h k j v)) : Go B C ce sl pc L (.int v :: .ref k :: st) h := by
  obtain ⟨p, l, e, R0, s, m, args, below, meth, c, D, cy, A, nL0, AR, Q⟩ := C
  intro ad H locs ls ha hW hS hl
  subst hnm
  subst hds
  refine va_put hC.1 hC.2.1 hC.2.2.2.2.2.2.1 hin ty0 hty0 hnms hC.2.2.2.2.2.1 hC.2.2.2.2.2.2.2.1.1 hW.1 hW.2 hS k (wl_get hB) hcl j hj (hC.2.2.2.2.2.2.1 _ hw) (sf_e hC.2.2.2.2.2.2.1 hsame) hfin (v := .int v) hty rfl rfl (by rw [List.length_mapIdx]; exact (List.getElem?_eq_some_iff.mp hk).1) hdg (fun H1 locs1 hP1 hD1 hS1 => ?_)
  have he := wl_setI (cy := cy) (ad := ad) (g := upd (h.1 k) j v) hB (e := .inr (ci, (ks.mapIdx (pf_d ad (h.1 k) (h.2.1 k))).set j (.int v))) (congrArg (fun z => Sum.inr (ci, z)) (pf_setI (x := v) hk (by rw [pf_0 _ _ _ _ _]; simp [upd, vp_updL])))
  rw [he] at hP1 hD1
  exact kk ad H1 locs1 ls ha ⟨hP1, hD1⟩ hS1 hl
theorem go_putz (hC : Cx C cc nL Ts own ret R) {k j z ci idx N : Nat} {ks : List (Nat × Nat)} {ref Cn nm ds : String} {T : u_T} {v : Int32} (ty0 : Nat → FieldType) (hB : (B ++ h.2.2.2)[k]? = some (.inr (ci, ks))) (hk : ks[j]? = some (0, z)) (hcl : vwCl[ci]? = some (Cn, T, N)) (hin : ∀ w ∈ u_ws Cn T N, w ∈ Ts) (hty0 : ∀ k, k < N → parseFieldDescriptor (T k).2.2.1 = some (ty0 k)) (hnms : ∀ a, a < N → ∀ b, b < N → a ≠ b → (T a).2.1 ≠ (T b).2.1) (hj : j < N) (hnm : (T j).2.1 = nm) (hds : (T j).2.2.1 = ds) (hw : Cond.fieldLink own idx ref nm ds ∈ Ts) (hsame : (T j).1 = ref ∨ Cond.sameField ref (T j).1 nm ds ∈ Ts) (hfin : (T j).2.2.2 = false) (hty : parseFieldDescriptor (T j).2.2.1 = some .boolean) (hv : v = 0 ∨ v = 1) (hdg : decode cc pc = .ok (.putfield idx, 3)) (kk : Go B C ce sl (pc + 3) L st (ph_i h k j v)) : Go B C ce sl pc L (.int v :: .ref k :: st) h := by
  obtain ⟨p, l, e, R0, s, m, args, below, meth, c, D, cy, A, nL0, AR, Q⟩ := C
  intro ad H locs ls ha hW hS hl
  subst hnm
  subst hds
  refine va_put hC.1 hC.2.1 hC.2.2.2.2.2.2.1 hin ty0 hty0 hnms hC.2.2.2.2.2.1 hC.2.2.2.2.2.2.2.1.1 hW.1 hW.2 hS k (wl_get hB) hcl j hj (hC.2.2.2.2.2.2.1 _ hw) (sf_e hC.2.2.2.2.2.2.1 hsame) hfin (v := .int v) hty (zo_n hv) (zo_f hv) (by rw [List.length_mapIdx]; exact (List.getElem?_eq_some_iff.mp hk).1) hdg (fun H1 locs1 hP1 hD1 hS1 => ?_)
  have he := wl_setI (cy := cy) (ad := ad) (g := upd (h.1 k) j v) hB (e := .inr (ci, (ks.mapIdx (pf_d ad (h.1 k) (h.2.1 k))).set j (.int v))) (congrArg (fun z => Sum.inr (ci, z)) (pf_setI (x := v) hk (by rw [pf_0 _ _ _ _ _]; simp [upd, vp_updL])))
  rw [he] at hP1 hD1
  exact kk ad H1 locs1 ls ha ⟨hP1, hD1⟩ hS1 hl
theorem go_putl (hC : Cx C cc nL Ts own ret R) {k j z ci idx N : Nat} {ks : List (Nat × Nat)} {ref Cn nm ds : String} {T : u_T} {v : Int64} (ty0 : Nat → FieldType) (hB : (B ++ h.2.2.2)[k]? = some (.inr (ci, ks))) (hk : ks[j]? = some (1, z)) (hcl : vwCl[ci]? = some (Cn, T, N)) (hin : ∀ w ∈ u_ws Cn T N, w ∈ Ts) (hty0 : ∀ k, k < N → parseFieldDescriptor (T k).2.2.1 = some (ty0 k)) (hnms : ∀ a, a < N → ∀ b, b < N → a ≠ b → (T a).2.1 ≠ (T b).2.1) (hj : j < N) (hnm : (T j).2.1 = nm) (hds : (T j).2.2.1 = ds) (hw : Cond.fieldLink own idx ref nm ds ∈ Ts) (hsame : (T j).1 = ref ∨ Cond.sameField ref (T j).1 nm ds ∈ Ts) (hfin : (T j).2.2.2 = false) (hty : parseFieldDescriptor (T j).2.2.1 = some .long) (hdg : decode cc pc = .ok (.putfield idx, 3)) (kk : Go B C ce sl (pc + 3) L st (ph_l h k j v)) : Go B C ce sl pc L (.long v :: .ref k :: st) h := by
  obtain ⟨p, l, e, R0, s, m, args, below, meth, c, D, cy, A, nL0, AR, Q⟩ := C
  intro ad H locs ls ha hW hS hl
  subst hnm
  subst hds
  refine va_put hC.1 hC.2.1 hC.2.2.2.2.2.2.1 hin ty0 hty0 hnms hC.2.2.2.2.2.1 hC.2.2.2.2.2.2.2.1.1 hW.1 hW.2 hS k (wl_get hB) hcl j hj (hC.2.2.2.2.2.2.1 _ hw) (sf_e hC.2.2.2.2.2.2.1 hsame) hfin (v := .long v) hty rfl rfl (by rw [List.length_mapIdx]; exact (List.getElem?_eq_some_iff.mp hk).1) hdg (fun H1 locs1 hP1 hD1 hS1 => ?_)
  have he := wl_setL (cy := cy) (ad := ad) (j0 := j) (v := v) hB (e := .inr (ci, (ks.mapIdx (pf_d ad (h.1 k) (h.2.1 k))).set j (.long v))) (congrArg (fun z => Sum.inr (ci, z)) (pf_setL (x := v) hk (by rw [pf_1 _ _ _ _ _]; simp [upd, vp_updL])))
  rw [he] at hP1 hD1
  exact kk ad H1 locs1 ls ha ⟨hP1, hD1⟩ hS1 hl
theorem go_putq (hC : Cx C cc nL Ts own ret R) {k j z ci idx N : Nat} {ks : List (Nat × Nat)} {ref Cn nm ds : String} {T : u_T} {ty : FieldType} (ty0 : Nat → FieldType) (hB : (B ++ h.2.2.2)[k]? = some (.inr (ci, ks))) (hk : ks[j]? = some (2, z)) (hcl : vwCl[ci]? = some (Cn, T, N)) (hin : ∀ w ∈ u_ws Cn T N, w ∈ Ts) (hty0 : ∀ k, k < N → parseFieldDescriptor (T k).2.2.1 = some (ty0 k)) (hnms : ∀ a, a < N → ∀ b, b < N → a ≠ b → (T a).2.1 ≠ (T b).2.1) (hj : j < N) (hnm : (T j).2.1 = nm) (hds : (T j).2.2.1 = ds) (hw : Cond.fieldLink own idx ref nm ds ∈ Ts) (hsame : (T j).1 = ref ∨ Cond.sameField ref (T j).1 nm ds ∈ Ts) (hfin : (T j).2.2.2 = false) (hty : parseFieldDescriptor (T j).2.2.1 = some ty) (hnr : ∀ a : Nat, narrow ty (.ref a) = .ref a ∧ fits ty (.ref a) = true) (hdg : decode cc pc = .ok (.putfield idx, 3)) (kk : Go B C ce sl (pc + 3) L st (ph_i h k j 1)) : Go B C ce sl pc L (.ref z :: .ref k :: st) h := by
  obtain ⟨p, l, e, R0, s, m, args, below, meth, c, D, cy, A, nL0, AR, Q⟩ := C
  intro ad H locs ls ha hW hS hl
  subst hnm
  subst hds
  refine va_put hC.1 hC.2.1 hC.2.2.2.2.2.2.1 hin ty0 hty0 hnms hC.2.2.2.2.2.1 hC.2.2.2.2.2.2.2.1.1 hW.1 hW.2 hS k (wl_get hB) hcl j hj (hC.2.2.2.2.2.2.1 _ hw) (sf_e hC.2.2.2.2.2.2.1 hsame) hfin (v := .ref (ad z)) hty (hnr _).1 (hnr _).2 (by rw [List.length_mapIdx]; exact (List.getElem?_eq_some_iff.mp hk).1) hdg (fun H1 locs1 hP1 hD1 hS1 => ?_)
  have he := wl_setI (cy := cy) (ad := ad) (g := upd (h.1 k) j 1) hB (e := .inr (ci, (ks.mapIdx (pf_d ad (h.1 k) (h.2.1 k))).set j (.ref (ad z)))) (congrArg (fun z => Sum.inr (ci, z)) (pf_setI hk (by rw [pf_2s]; simp [upd])))
  rw [he] at hP1 hD1
  exact kk ad H1 locs1 ls ha ⟨hP1, hD1⟩ hS1 hl
theorem go_putqF (hC : Cx C cc nL Ts own ret R) {k j z ci idx N : Nat} {ks : List (Nat × Nat)} {Cn nm ds : String} {T : u_T} {ty : FieldType} (ty0 : Nat → FieldType) (hin2 : cx_init C) (hB : (B ++ h.2.2.2)[k]? = some (.inr (ci, ks))) (hk : ks[j]? = some (2, z)) (hcl : vwCl[ci]? = some (Cn, T, N)) (hin : ∀ w ∈ u_ws Cn T N, w ∈ Ts) (hty0 : ∀ k, k < N → parseFieldDescriptor (T k).2.2.1 = some (ty0 k)) (hnms : ∀ a, a < N → ∀ b, b < N → a ≠ b → (T a).2.1 ≠ (T b).2.1) (hj : j < N) (hnm : (T j).2.1 = nm) (hds : (T j).2.2.1 = ds) (hw : Cond.fieldLink own idx own nm ds ∈ Ts) (hown : (T j).1 = own) (hfin : (T j).2.2.2 = true) (hty : parseFieldDescriptor (T j).2.2.1 = some ty) (hnr : ∀ a : Nat, narrow ty (.ref a) = .ref a ∧ fits ty (.ref a) = true) (hdg : decode cc pc = .ok (.putfield idx, 3)) (kk : Go B C ce sl (pc + 3) L st (ph_i h k j 1)) : Go B C ce sl pc L (.ref z :: .ref k :: st) h := by
  obtain ⟨p, l, e, R0, s, m, args, below, meth, c, D, cy, A, nL0, AR, Q⟩ := C
  intro ad H locs ls ha hW hS hl
  subst hnm
  subst hds
  refine va_putF hC.1 hC.2.1 hC.2.2.2.2.2.2.1 hin ty0 hty0 hnms hC.2.2.2.2.2.1 hC.2.2.2.2.2.2.2.1.1 hW.1 hW.2 hS k (wl_get hB) hcl j hj (hC.2.2.2.2.2.2.1 _ hw) (sf_e hC.2.2.2.2.2.2.1 (Or.inl hown)) hfin hin2 hown (v := .ref (ad z)) hty (hnr _).1 (hnr _).2 (by rw [List.length_mapIdx]; exact (List.getElem?_eq_some_iff.mp hk).1) hdg (fun H1 locs1 hP1 hD1 hS1 => ?_)
  have he := wl_setI (cy := cy) (ad := ad) (g := upd (h.1 k) j 1) hB (e := .inr (ci, (ks.mapIdx (pf_d ad (h.1 k) (h.2.1 k))).set j (.ref (ad z)))) (congrArg (fun z => Sum.inr (ci, z)) (pf_setI hk (by rw [pf_2s]; simp [upd])))
  rw [he] at hP1 hD1
  exact kk ad H1 locs1 ls ha ⟨hP1, hD1⟩ hS1 hl
theorem go_putiF (hC : Cx C cc nL Ts own ret R) {k j z ci idx N : Nat} {ks : List (Nat × Nat)} {Cn nm ds : String} {T : u_T} {v : Int32} (ty0 : Nat → FieldType) (hin2 : cx_init C) (hB : (B ++ h.2.2.2)[k]? = some (.inr (ci, ks))) (hk : ks[j]? = some (0, z)) (hcl : vwCl[ci]? = some (Cn, T, N)) (hin : ∀ w ∈ u_ws Cn T N, w ∈ Ts) (hty0 : ∀ k, k < N → parseFieldDescriptor (T k).2.2.1 = some (ty0 k)) (hnms : ∀ a, a < N → ∀ b, b < N → a ≠ b → (T a).2.1 ≠ (T b).2.1) (hj : j < N) (hnm : (T j).2.1 = nm) (hds : (T j).2.2.1 = ds) (hw : Cond.fieldLink own idx own nm ds ∈ Ts) (hown : (T j).1 = own) (hfin : (T j).2.2.2 = true) (hty : parseFieldDescriptor (T j).2.2.1 = some .int) (hdg : decode cc pc = .ok (.putfield idx, 3)) (kk : Go B C ce sl (pc + 3) L st (ph_i h k j v)) : Go B C ce sl pc L (.int v :: .ref k :: st) h := by
  obtain ⟨p, l, e, R0, s, m, args, below, meth, c, D, cy, A, nL0, AR, Q⟩ := C
  intro ad H locs ls ha hW hS hl
  subst hnm
  subst hds
  refine va_putF hC.1 hC.2.1 hC.2.2.2.2.2.2.1 hin ty0 hty0 hnms hC.2.2.2.2.2.1 hC.2.2.2.2.2.2.2.1.1 hW.1 hW.2 hS k (wl_get hB) hcl j hj (hC.2.2.2.2.2.2.1 _ hw) (sf_e hC.2.2.2.2.2.2.1 (Or.inl hown)) hfin hin2 hown (v := .int v) hty rfl rfl (by rw [List.length_mapIdx]; exact (List.getElem?_eq_some_iff.mp hk).1) hdg (fun H1 locs1 hP1 hD1 hS1 => ?_)
  have he := wl_setI (cy := cy) (ad := ad) (g := upd (h.1 k) j v) hB (e := .inr (ci, (ks.mapIdx (pf_d ad (h.1 k) (h.2.1 k))).set j (.int v))) (congrArg (fun z => Sum.inr (ci, z)) (pf_setI hk (by rw [pf_0]; simp [upd])))
  rw [he] at hP1 hD1
  exact kk ad H1 locs1 ls ha ⟨hP1, hD1⟩ hS1 hl
theorem go_iald (hC : Cx C cc nL Ts own ret R) {k n : Nat} {i : Int32} (hB : (B ++ h.2.2.2)[k]? = some (.inl (0, n))) (hi : vp_in i n) (hdg : decode cc pc = .ok (.iaload, 1)) (kk : Go B C ce sl (pc + 1) L (.int (h.1 k i.toNatClampNeg) :: st) h) : Go B C ce sl pc L (.int i :: .ref k :: st) h := by
  obtain ⟨p, l, e, R0, s, m, args, below, meth, c, D, cy, A, nL0, AR, Q⟩ := C
  intro ad H locs ls ha hW hS hl
  exact va_iald hC.1 hC.2.1 hC.2.2.2.2.2.2.2.1.1 hW.1 k 0 (wl_get hB) rfl hi hdg (kk ad H locs ls ha hW hS hl)
theorem go_zald (hC : Cx C cc nL Ts own ret R) {k n : Nat} {i : Int32} (hB : (B ++ h.2.2.2)[k]? = some (.inl (1, n))) (hi : vp_in i n) (hdg : decode cc pc = .ok (.baload, 1)) (kk : Go B C ce sl (pc + 1) L (.int (h.1 k i.toNatClampNeg) :: st) h) : Go B C ce sl pc L (.int i :: .ref k :: st) h := by
  obtain ⟨p, l, e, R0, s, m, args, below, meth, c, D, cy, A, nL0, AR, Q⟩ := C
  intro ad H locs ls ha hW hS hl
  exact va_zald hC.1 hC.2.1 hC.2.2.2.2.2.2.2.1.1 hW.1 k 1 (wl_get hB) rfl hi hdg (kk ad H locs ls ha hW hS hl)
theorem go_lald (hC : Cx C cc nL Ts own ret R) {k n : Nat} {i : Int32} (hB : (B ++ h.2.2.2)[k]? = some (.inl (2, n))) (hi : vp_in i n) (hdg : decode cc pc = .ok (.laload, 1)) (kk : Go B C ce sl (pc + 1) L (.long (h.2.1 k i.toNatClampNeg) :: st) h) : Go B C ce sl pc L (.int i :: .ref k :: st) h := by
  obtain ⟨p, l, e, R0, s, m, args, below, meth, c, D, cy, A, nL0, AR, Q⟩ := C
  intro ad H locs ls ha hW hS hl
  exact va_lald hC.1 hC.2.1 hC.2.2.2.2.2.2.2.1.1 hW.1 k 2 (wl_get hB) rfl hi hdg (kk ad H locs ls ha hW hS hl)
theorem go_alen (hC : Cx C cc nL Ts own ret R) {k t n : Nat} {v : Int32} (hB : (B ++ h.2.2.2)[k]? = some (.inl (t, n))) (ht : t < 4) (hv : Int32.ofNat n = v) (hdg : decode cc pc = .ok (.arraylength, 1)) (kk : Go B C ce sl (pc + 1) L (.int v :: st) h) : Go B C ce sl pc L (.ref k :: st) h := by
  obtain ⟨p, l, e, R0, s, m, args, below, meth, c, D, cy, A, nL0, AR, Q⟩ := C
  intro ad H locs ls ha hW hS hl
  have h4 : t = 0 ∨ t = 1 ∨ t = 2 ∨ t = 3 := by omega
  rcases h4 with rfl | rfl | rfl | rfl
  · exact va_alen hC.1 hC.2.1 hC.2.2.2.2.2.2.2.1.1 hW.1 k 0 (wl_get hB) rfl hv hdg (kk ad H locs ls ha hW hS hl)
  · exact va_alen hC.1 hC.2.1 hC.2.2.2.2.2.2.2.1.1 hW.1 k 1 (wl_get hB) rfl hv hdg (kk ad H locs ls ha hW hS hl)
  · exact va_alen hC.1 hC.2.1 hC.2.2.2.2.2.2.2.1.1 hW.1 k 2 (wl_get hB) rfl hv hdg (kk ad H locs ls ha hW hS hl)
  · exact va_alen hC.1 hC.2.1 hC.2.2.2.2.2.2.2.1.1 hW.1 k 3 (wl_get hB) rfl hv hdg (kk ad H locs ls ha hW hS hl)
theorem go_iast (hC : Cx C cc nL Ts own ret R) {k n : Nat} {i x : Int32} (hB : (B ++ h.2.2.2)[k]? = some (.inl (0, n))) (hi : vp_in i n) (hdg : decode cc pc = .ok (.iastore, 1)) (kk : Go B C ce sl (pc + 1) L st (ph_i h k i.toNatClampNeg x)) : Go B C ce sl pc L (.int x :: .int i :: .ref k :: st) h := by
  obtain ⟨p, l, e, R0, s, m, args, below, meth, c, D, cy, A, nL0, AR, Q⟩ := C
  intro ad H locs ls ha hW hS hl
  refine va_iast hC.1 hC.2.1 hC.2.2.2.2.2.2.2.1.1 hW.1 hW.2 hS k 0 (wl_get hB) rfl hi hdg (fun H1 locs1 hP1 hD1 hS1 => ?_)
  have he := wl_setI (cy := cy) (ad := ad) (g := upd (h.1 k) i.toNatClampNeg x) hB (e := .inl (cy 0, n, .inl (upd (h.1 k) i.toNatClampNeg x))) rfl
  rw [he] at hP1 hD1
  exact kk ad H1 locs1 ls ha ⟨hP1, hD1⟩ hS1 hl
theorem zn_b (x : Int32) : vp_nar .boolean x = x &&& 1 := rfl
theorem go_zast (hC : Cx C cc nL Ts own ret R) {k n : Nat} {i x : Int32} (hB : (B ++ h.2.2.2)[k]? = some (.inl (1, n))) (hi : vp_in i n) (hx : x = 0 ∨ x = 1) (hdg : decode cc pc = .ok (.bastore, 1)) (kk : Go B C ce sl (pc + 1) L st (ph_i h k i.toNatClampNeg x)) : Go B C ce sl pc L (.int x :: .int i :: .ref k :: st) h := by
  obtain ⟨p, l, e, R0, s, m, args, below, meth, c, D, cy, A, nL0, AR, Q⟩ := C
  intro ad H locs ls ha hW hS hl
  have hxx : vp_nar .boolean x = x := by rcases hx with rfl | rfl <;> rfl
  refine va_zast hC.1 hC.2.1 hC.2.2.2.2.2.2.2.1.1 hW.1 hW.2 hS k 1 (wl_get hB) rfl hi hdg (fun H1 locs1 hP1 hD1 hS1 => ?_)
  rw [hxx] at hP1 hD1
  have he := wl_setI (cy := cy) (ad := ad) (g := upd (h.1 k) i.toNatClampNeg x) hB (e := .inl (cy 1, n, .inl (upd (h.1 k) i.toNatClampNeg x))) rfl
  rw [he] at hP1 hD1
  exact kk ad H1 locs1 ls ha ⟨hP1, hD1⟩ hS1 hl
theorem go_last (hC : Cx C cc nL Ts own ret R) {k n : Nat} {i : Int32} {x : Int64} (hB : (B ++ h.2.2.2)[k]? = some (.inl (2, n))) (hi : vp_in i n) (hdg : decode cc pc = .ok (.lastore, 1)) (kk : Go B C ce sl (pc + 1) L st (ph_l h k i.toNatClampNeg x)) : Go B C ce sl pc L (.long x :: .int i :: .ref k :: st) h := by
  obtain ⟨p, l, e, R0, s, m, args, below, meth, c, D, cy, A, nL0, AR, Q⟩ := C
  intro ad H locs ls ha hW hS hl
  refine va_last hC.1 hC.2.1 hC.2.2.2.2.2.2.2.1.1 hW.1 hW.2 hS k 2 (wl_get hB) rfl hi hdg (fun H1 locs1 hP1 hD1 hS1 => ?_)
  have he := wl_setL (cy := cy) (ad := ad) (j0 := i.toNatClampNeg) (v := x) hB (e := .inl (cy 2, n, .inr (.inl (vp_updL (h.2.1 k) i.toNatClampNeg x)))) rfl
  rw [he] at hP1 hD1
  exact kk ad H1 locs1 ls ha ⟨hP1, hD1⟩ hS1 hl
end GR
