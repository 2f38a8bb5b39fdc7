theorem mj_mono {p : Program} {l : Launch} {e : Env} {R : Room} {s : State} {m : MethodId} {args : Array Value} {below : List Frame} {meth : Method} {c : Code} {H : Heap} {locs : List Loc} {cells slots : Nat} {Q Q' : State → Prop} {g : JFrame} (h : W p l e R s m args below meth c H locs cells slots Q g) (hq : ∀ t, Q t → Q' t) : W p l e R s m args below meth c H locs cells slots Q' g := by
  intro T hT X
  obtain ⟨t, a, b⟩ := h T hT X
  exact ⟨t, a, hq t b⟩
section MJR
variable {P : mj_P} {s0 : State} {D : va_G} {cl : List vw_C} {al : Nat → Nat} {cm sm c0 n0 k fr lo : Nat} {p : Program} {l : Launch} {e : Env} {R : Room} {s : State} {m : MethodId} {args : Array Value} {below : List Frame} {meth : Method} {c : Code} {h : mj_H} {pc : Nat} {lv : mj_L}
theorem mj_MQ {v : Option Value} {cells slots : Nat} {t : State} (hc : cells + c0 = h.length) (hs : slots + n0 = mj_sl P h) (ht : MQ below (fun _ _ oc u => oc = .returned (v.map (mj_lf al)) ∧ mj_R s0 D cl al cm h u.heap) args s cells slots (fun q => s0.heap.size ≤ q) t) :
    mj_End s0 D cl al cm below s (.inl v) h (h.length - c0) (mj_sl P h - n0) t := by
  obtain ⟨oc, h1, h2, ⟨rfl, h4⟩, L, ⟨-, h5, h6⟩, h7⟩ := ht
  refine ⟨h1, h2, h4, h5, L, ?_, h7⟩
  rw [show h.length - c0 = cells by omega, show mj_sl P h - n0 = slots by omega]
  exact h6
theorem mj_s_iret (X : mj_Fr P s0 cm sm c0 n0 k fr lo p l e R s m meth c) {v : Int32} (hd : decode (mj_by P k) pc = .ok (.ireturn, 1)) (hr : mj_rt P k = some .int) :
    mj_W P s0 D cl al cm sm c0 n0 k p l e R s m args below meth c (.inl (some (.int v))) h (pc, lv, [.int v]) h := by
  intro H locs cells slots ls hR hl hc hs hL
  have hlocks : meth.locks = false := X.2.2.2.2.2.1
  exact mj_mono (W.iret (Qc := fun _ _ oc u => oc = .returned ((some (.int v)).map (mj_lf al)) ∧ mj_R s0 D cl al cm h u.heap) (free := fun q => s0.heap.size ≤ q) X.1 X.2.1 (X.2.2.2.2.1.trans hr) (fun t ht hW => ⟨rfl, by rw [ht]; exact hR⟩) hl hd) (fun t ht => mj_MQ hc hs ht)
theorem mj_s_zret (X : mj_Fr P s0 cm sm c0 n0 k fr lo p l e R s m meth c) {v : Int32} (hd : decode (mj_by P k) pc = .ok (.ireturn, 1)) (hr : mj_rt P k = some .boolean) (hv : v = 0 ∨ v = 1) :
    mj_W P s0 D cl al cm sm c0 n0 k p l e R s m args below meth c (.inl (some (.int v))) h (pc, lv, [.int v]) h := by
  intro H locs cells slots ls hR hl hc hs hL
  have hlocks : meth.locks = false := X.2.2.2.2.2.1
  exact mj_mono (W.zret (Qc := fun _ _ oc u => oc = .returned ((some (.int v)).map (mj_lf al)) ∧ mj_R s0 D cl al cm h u.heap) (free := fun q => s0.heap.size ≤ q) X.1 X.2.1 (X.2.2.2.2.1.trans hr) (by rcases hv with rfl | rfl <;> decide +kernel) (fun t ht hW => ⟨rfl, by rw [ht]; exact hR⟩) hl hd) (fun t ht => mj_MQ hc hs ht)
theorem mj_s_lret (X : mj_Fr P s0 cm sm c0 n0 k fr lo p l e R s m meth c) {v : Int64} (hd : decode (mj_by P k) pc = .ok (.lreturn, 1)) (hr : mj_rt P k = some .long) :
    mj_W P s0 D cl al cm sm c0 n0 k p l e R s m args below meth c (.inl (some (.long v))) h (pc, lv, [.long v]) h := by
  intro H locs cells slots ls hR hl hc hs hL
  have hlocks : meth.locks = false := X.2.2.2.2.2.1
  exact mj_mono (W.lret (Qc := fun _ _ oc u => oc = .returned ((some (.long v)).map (mj_lf al)) ∧ mj_R s0 D cl al cm h u.heap) (free := fun q => s0.heap.size ≤ q) X.1 X.2.1 (X.2.2.2.2.1.trans hr) (fun t ht hW => ⟨rfl, by rw [ht]; exact hR⟩) hl hd) (fun t ht => mj_MQ hc hs ht)
theorem mj_s_vret (X : mj_Fr P s0 cm sm c0 n0 k fr lo p l e R s m meth c) (hd : decode (mj_by P k) pc = .ok (.return_, 1)) (hr : mj_rt P k = none) :
    mj_W P s0 D cl al cm sm c0 n0 k p l e R s m args below meth c (.inl none) h (pc, lv, []) h := by
  intro H locs cells slots ls hR hl hc hs hL
  have hlocks : meth.locks = false := X.2.2.2.2.2.1
  exact mj_mono (W.vret (Qc := fun _ _ oc u => oc = .returned ((none : Option Value).map (mj_lf al)) ∧ mj_R s0 D cl al cm h u.heap) (free := fun q => s0.heap.size ≤ q) X.1 X.2.1 (X.2.2.2.2.1.trans hr) (fun t ht hW => ⟨rfl, by rw [ht]; exact hR⟩) hl hd) (fun t ht => mj_MQ hc hs ht)
theorem mj_s_athrow (X : mj_Fr P s0 cm sm c0 n0 k fr lo p l e R s m meth c) {x : Nat} {r : List Value} (hd : decode (mj_by P k) pc = .ok (.athrow, 1)) (hh : mj_hd P k = []) :
    mj_W P s0 D cl al cm sm c0 n0 k p l e R s m args below meth c (.inr x) h (pc, lv, .ref x :: r) h := by
  intro H locs cells slots ls hR hl hc hs hL T hT XS
  have hlocks : meth.locks = false := X.2.2.2.2.2.1
  have hout : ∀ y ∈ c.exceptionTable.toList, covers y pc = false := by
    intro y hy
    rw [X.2.2.2.2.2.2.2.1, mj_hs, hh] at hy
    cases hy
  obtain ⟨h1, h2, h3, h4, h5⟩ := XS.athrowLeaves X.1 (g := F0 m pc ls ((Value.ref x :: r).map (mj_lf al))) rfl rfl rfl hout (a := al x) (rest := r.map (mj_lf al)) rfl (by rw [X.2.1]; exact hd) hlocks
  refine ⟨_, h1, h2, h3, ?_, h4, locs, ?_, hl⟩
  · show mj_R s0 D cl al cm h T.heap
    rw [hT]
    exact hR
  · rw [show h.length - c0 = cells by omega, show mj_sl P h - n0 = slots by omega]
    exact h5
end MJR
/-- the method k, in tables that are warmer than s0's -/
def mj_meth (P : mj_P) (k : Nat) (U : State) : Prop := ∃ (mk : MethodId) (meth : Method) (c : Code), U.methodNamed? (mj_nm P k) = some mk ∧ U.vm.method? mk = some meth ∧ meth.code = some c ∧ c.code = mj_by P k ∧ c.maxLocals = mj_ml P k ∧ meth.sig.returnType = mj_rt P k ∧ meth.locks = false ∧
  c.exceptionTable.toList = tableOf (mj_hs P k) ∧ meth.sig.parameters.length = mj_na P k ∧ U.plainMethod mk
def mj_lk (s : State) (args : Array Value) (own : String) (i : Nat) (y : MethodName) : Prop := (Cond.methodLink own i y).before args s = true ∨ ∃ host, (Cond.methodLinkNest own i y host).before args s = true
def mj_nmh (y : MethodName) : Prop := y.cls ≠ "java/lang/invoke/MethodHandle" ∧ y.cls ≠ "java/lang/invoke/VarHandle"
def mj_cV (D : va_G) (cl : List vw_C) (s : State) (args : Array Value) (own : String) (i : Nat) (y : MethodName) (ci : Nat) : Prop :=
  Nat.ble 50 ci = false ∧ mj_nmh y ∧ mj_lk s args own i y ∧ (Cond.instanceMethod y).before args s = true ∧ ∃ C : String, (Cond.selects C y y).before args s = true ∧ s.vm.findClass C = some (D.1 ci)
def mj_cS (s : State) (args : Array Value) (own : String) (i : Nat) (y : MethodName) : Prop :=
  mj_nmh y ∧ mj_lk s args own i y ∧ (Cond.static y).before args s = true ∧ (Cond.initialized y.cls).before args s = true
def mj_cI (P : mj_P) (s : State) (args : Array Value) (own : String) (i k : Nat) : Prop :=
  mj_nmh (mj_nm P k) ∧ mj_lk s args own i (mj_nm P k) ∧ (Cond.instanceMethod (mj_nm P k)).before args s = true ∧ (mj_nm P k).name = "<init>" ∧ (Cond.code (mj_nm P k) (mj_by P k) (mj_ml P k) none).before args s = true
/-- a call has been entered: what the machine does next is the callee's first step -/
def mj_in (p : Program) (l : Launch) (e : Env) (R : Room) (s : State) (m : MethodId) (args : Array Value) (below : List Frame) (meth : Method) (c : Code) (T : State) (locs : List Loc) (cells slots : Nat) (y : MethodName) (A : Array Value) (g : JFrame) (rest : List Value) : Prop :=
  ∃ (vm₁ : Vm) (mk : MethodId), s.methodNamed? y = some mk ∧ Stand p l e R s m args below meth c (T.setVm vm₁) locs cells slots ∧
    ∀ target, (∀ acts, Steps p.tables e below (doInvoke e ((T.setVm vm₁).setTop { g with stack := rest }) acts mk A).1 target) → Steps p.tables e below (T.setTop g) target
section MJC
variable {P : mj_P} {s0 : State} {D : va_G} {cl : List vw_C} {al : Nat → Nat} {cm sm c0 n0 k fr lo : Nat} {p : Program} {l : Launch} {e : Env} {R : Room} {s : State} {m : MethodId} {args : Array Value} {below : List Frame} {meth : Method} {c : Code} {T : State} {locs : List Loc} {cells slots : Nat} {pc : Nat} {ls : Array Slot}
theorem mj_inV (hexec : p.tables.exec = Jvm.exec) (XS : Stand p l e R s m args below meth c T locs cells slots) {own : String} (hown : s.vm.findClass own = some m.cls) {i k' ci a : Nat} {cell : Cell} {as rest : List Value} (hw : mj_cV D cl s args own i (mj_nm P k') ci) (hm : mj_meth P k' s) (hlen : as.length = mj_na P k')
    (hcell : T.heap[a]? = some cell) (hcls : cell.cls = D.1 ci) (hvm : cell.vm = .none) (hd : decode c.code pc = .ok (.invokevirtual i, 3)) :
    mj_in p l e R s m args below meth c T locs cells slots (mj_nm P k') (.ref a :: as).toArray (F0 m pc ls (as.reverse ++ .ref a :: rest)) rest := by
  obtain ⟨-, hy, hlk, hinst, C, hsel, hC⟩ := hw
  obtain ⟨mk, methM, hnamed, hmethM, hstM, habM⟩ := Cond.instanceMethod_spec hinst
  obtain ⟨mk', methM', cM, u1, u2, u3, u4, u5, u6, u7, u8, u9, u10⟩ := hm
  cases hnamed.symm.trans u1
  cases hmethM.symm.trans u2
  obtain ⟨c2, r2, m2, q1, q2, q3, q4, kP, hkP, hkPi⟩ := Cond.selects_spec hsel
  cases hC.symm.trans q1
  cases (State.methodFound?_of_named hnamed hy).symm.trans q2
  cases hnamed.symm.trans q3
  have hselP : selectMethod e.platform s.vm cell.cls mk = .method mk := by rw [Launch.admits_selectMethod XS.admits, hcls]; exact q4
  have hobj : ∀ z, cell.vm ≠ .statics z := fun z hz => by rw [hvm] at hz; cases hz
  rcases hlk with hlk | ⟨host, hlk⟩
  · obtain ⟨vm₁, X₁, hst⟩ := XS.invokevirtual hexec hown hlk hnamed hmethM hstM hkP hkPi hy (a := a) (cell := cell) hcell hobj hselP hmethM habM hkP hkPi (g := F0 m pc ls (as.reverse ++ .ref a :: rest)) rfl (argsL := as) (rest := rest) (hlen.trans u9.symm) rfl hd
    exact ⟨vm₁, mk, hnamed, X₁, hst⟩
  · obtain ⟨vm₁, X₁, hst⟩ := XS.invokevirtualNest hexec hown hlk hnamed hmethM hstM hkP hkPi hy (a := a) (cell := cell) hcell hobj hselP hmethM habM hkP hkPi (g := F0 m pc ls (as.reverse ++ .ref a :: rest)) rfl (argsL := as) (rest := rest) (hlen.trans u9.symm) rfl hd
    exact ⟨vm₁, mk, hnamed, X₁, hst⟩
theorem mj_inS (hexec : p.tables.exec = Jvm.exec) (XS : Stand p l e R s m args below meth c T locs cells slots) {own : String} (hown : s.vm.findClass own = some m.cls) {i k' : Nat} {as rest : List Value} (hw : mj_cS s args own i (mj_nm P k')) (hm : mj_meth P k' s) (hlen : as.length = mj_na P k')
    (hd : decode c.code pc = .ok (.invokestatic i, 3)) :
    mj_in p l e R s m args below meth c T locs cells slots (mj_nm P k') as.toArray (F0 m pc ls (as.reverse ++ rest)) rest := by
  obtain ⟨hy, hlk, hstat, hinit⟩ := hw
  obtain ⟨mk, methM, cM, hnamed, hmethM, u3, u4, u5, u6, u7, u8, u9, u10⟩ := hm
  have hstatic : methM.isStatic = true := Cond.static_spec hnamed hmethM hstat
  obtain ⟨kP, hkP, -⟩ := className_of_methodNamed hnamed
  have hinitP : kP.init = .initialized := Cond.initialized_spec (findClass_of_methodNamed hnamed) hkP hinit
  rcases hlk with hlk | ⟨host, hlk⟩
  · obtain ⟨vm₁, X₁, hst⟩ := XS.invokestatic hexec hown hlk hnamed hmethM hstatic hkP hinitP hy (g := F0 m pc ls (as.reverse ++ rest)) rfl (argsL := as) (rest := rest) (hlen.trans u9.symm) rfl hd
    exact ⟨vm₁, mk, hnamed, X₁, hst⟩
  · obtain ⟨vm₁, X₁, hst⟩ := XS.invokestaticNest hexec hown hlk hnamed hmethM hstatic hkP hinitP hy (g := F0 m pc ls (as.reverse ++ rest)) rfl (argsL := as) (rest := rest) (hlen.trans u9.symm) rfl hd
    exact ⟨vm₁, mk, hnamed, X₁, hst⟩
theorem mj_inI (hexec : p.tables.exec = Jvm.exec) (XS : Stand p l e R s m args below meth c T locs cells slots) {own : String} (hown : s.vm.findClass own = some m.cls) {i k' a : Nat} {as rest : List Value} (hw : mj_cI P s args own i k') (hm : mj_meth P k' s) (hlen : as.length = mj_na P k')
    (hd : decode c.code pc = .ok (.invokespecial i, 3)) :
    mj_in p l e R s m args below meth c T locs cells slots (mj_nm P k') (.ref a :: as).toArray (F0 m pc ls (as.reverse ++ .ref a :: rest)) rest := by
  obtain ⟨hy, hlk, hinst, hname, hcode⟩ := hw
  obtain ⟨mk, methM, cM, hnamed, hmethM, u3, u4, u5, u6, u7, u8, u9, u10⟩ := hm
  have hpl : e.platform.magicAccessors = ({} : Platform).magicAccessors := by rw [XS.admits.platform]
  have hl : ∀ sig, parseMethodDescriptor (mj_nm P k').desc = some sig → as.length = sig.parameters.length := by
    intro sig hsig
    obtain ⟨meth2, c2, v1, v2, v3, v4, v5, v6, v7, v8⟩ := Cond.code_spec hnamed hcode
    cases hmethM.symm.trans v1
    rw [v8] at hsig
    cases hsig
    exact hlen.trans u9.symm
  rcases hlk with hlk | ⟨host, hlk⟩
  · obtain ⟨mk', methM', cM', kP, vm₁, hn2, -, -, -, -, -, -, -, hW₁, hst⟩ := Steps.initColdArgs (e := e) XS.here hexec XS.warmed hpl hown hname hy hlk hinst hcode (f := F0 m pc ls (as.reverse ++ .ref a :: rest)) rfl (argsL := as) (rest := rest) hl rfl hd
    exact ⟨vm₁, mk', hn2, XS.noted hW₁, hst⟩
  · obtain ⟨mk', methM', cM', kP, vm₁, hn2, -, -, -, -, -, -, -, hW₁, hst⟩ := Steps.initColdArgsNest (e := e) XS.here hexec XS.warmed hpl hown hname hy hlk hinst hcode (f := F0 m pc ls (as.reverse ++ .ref a :: rest)) rfl (argsL := as) (rest := rest) hl rfl hd
    exact ⟨vm₁, mk', hn2, XS.noted hW₁, hst⟩
theorem mj_args (al : Nat → Nat) : ∀ (as : List Value) (i : Nat), lv_args i (as.map (mj_lf al)) = mj_ll al (lv_args i as)
  | [], _ => rfl
  | v :: vs, i => by
    have ih := mj_args al vs
    simp only [List.map_cons, lv_args, mj_ll, mj_cat] at ih ⊢
    rw [ih]
/-- a call, once entered: the callee's walk inside; its end -/
theorem mj_through (X : mj_Fr P s0 cm sm c0 n0 k fr lo p l e R s m meth c) (hmeth : ∀ U : State, s0.WarmedH U.vm → ∀ q, q = q → mj_meth P q U) {k' : Nat} {as r : List Value} {h h1 : mj_H} {o : mj_O} {H : Heap}
    (XS : Stand p l e R s m args below meth c T locs cells slots) (hT : T.heap = H) (hR : mj_R s0 D cl al cm h H) (hc : cells + c0 = h.length) (hs : slots + n0 = mj_sl P h) (hL : ls.size = mj_ml P k) {st : List Value}
    (hin : mj_in p l e R s m args below meth c T locs cells slots (mj_nm P k') (as.map (mj_lf al)).toArray (F0 m pc ls st) (r.map (mj_lf al)))
    {ig : Instr} (hd : decode (mj_by P k) pc = .ok (ig, 3)) (hf : 1 ≤ fr) (hw : mj_w r ≤ 8) (hlo : 8 + (mj_ml P k' + 11) ≤ lo) (hsm : mj_sl P h ≤ sm) (hargs : (lg_sl (as.map (mj_lf al))).length ≤ mj_ml P k')
    (callee : ∀ (R' : Room) (s' : State) (mk : MethodId) (below' : List Frame) (methk : Method) (ck : Code), mj_Fr P s0 cm sm h.length (mj_sl P h) k' (fr - 1) (lo - (8 + (mj_ml P k' + 11))) p l e R' s' mk methk ck →
      mj_W P s0 D cl al cm sm h.length (mj_sl P h) k' p l e R' s' mk (as.map (mj_lf al)).toArray below' methk ck o h1 (0, lv_args 0 as, []) h) :
    ∃ (T₁ : State) (mk : MethodId) (t : State), Stand p l e R s m args below meth c T₁ locs cells slots ∧ (∀ target, Steps p.tables e below t target → Steps p.tables e below (T.setTop (F0 m pc ls st)) target) ∧
      Ended t (.java (F0 m pc ls (r.map (mj_lf al))) :: below) (mj_oc al o) ∧ mj_R s0 D cl al cm h1 t.heap ∧ (T₁.calling (F0 m pc ls (r.map (mj_lf al))) mk (as.map (mj_lf al)).toArray).WarmedH t.vm ∧
      ∃ L, (T₁.calling (F0 m pc ls (r.map (mj_lf al))) mk (as.map (mj_lf al)).toArray).sameButNew ({ t with vm := (T₁.calling (F0 m pc ls (r.map (mj_lf al))) mk (as.map (mj_lf al)).toArray).vm } : State) L (h1.length - h.length) (mj_sl P h1 - mj_sl P h) ∧ ∀ q ∈ L, s0.heap.size ≤ q.base := by
  obtain ⟨x1, x2, x3, x4, x5, x6, x7, x8, x9, x10, x11, x12, x13, x14, x15⟩ := X
  obtain ⟨vm₁, mk, hn, X₁, hst⟩ := hin
  have hW1 : s0.WarmedH (T.setVm vm₁).vm := State.WarmedH.trans x9 X₁.warmed
  obtain ⟨mk', methk, ck, u1, u2, u3, u4, u5, u6, u7, u8, u9, u10⟩ := hmeth (T.setVm vm₁) hW1 k' rfl
  have hn1 : (T.setVm vm₁).methodNamed? (mj_nm P k') = some mk := X₁.named hn
  cases hn1.symm.trans u1
  have hd' : decode c.code pc = .ok (ig, 3) := by rw [x2]; exact hd
  obtain ⟨Y, hent⟩ := X₁.into (g := F0 m pc ls (r.map (mj_lf al))) rfl (by rw [x7]; exact hL) hd' (as.map (mj_lf al)).toArray (R' := { frames := fr - 1, cells := cm - h.length, slots := sm - mj_sl P h, locals := lo - (8 + (mj_ml P k' + 11)) }) u2 u3 u7 u10
    (by show fr - 1 + 1 ≤ _; omega) (by rw [mj_w_eq, u5]; show 2 * 0 + _ + _ + (lo - _) ≤ _; omega) (by show cells + (cm - h.length) ≤ _; have := hR.2.1; omega) (by show slots + (sm - mj_sl P h) ≤ _; omega)
  have hfr : mj_Fr P s0 cm sm h.length (mj_sl P h) k' (fr - 1) (lo - (8 + (mj_ml P k' + 11))) p l e { frames := fr - 1, cells := cm - h.length, slots := sm - mj_sl P h, locals := lo - (8 + (mj_ml P k' + 11)) } ((T.setVm vm₁).calling (F0 m pc ls (r.map (mj_lf al))) mk (as.map (mj_lf al)).toArray) mk methk ck := by
    refine ⟨x1, u4, findClass_of_methodNamed (s := T.setVm vm₁) hn1, (name_of_methodNamed hn1 u2).1, u6, u7, u5, u8, hW1, ?_, ?_, rfl, rfl, ?_, ?_⟩
    · intro q hq
      show T.heap[q]? = _
      rw [hT]
      exact hR.2.2.2.1 q hq
    · show s0.heap.size ≤ T.heap.size
      rw [hT]
      have := hR.2.2.1
      have := hR.1
      omega
    · show cm - h.length + h.length = cm
      have := hR.2.1
      omega
    · show sm - mj_sl P h + mj_sl P h = sm
      omega
  have hw1 := callee _ _ mk (.java (F0 m pc ls (r.map (mj_lf al))) :: below) methk ck hfr
  have hent2 := lv_entry (as.map (mj_lf al)) (n := mj_ml P k') hargs
  have hll := mj_args al as 0
  rw [hll] at hent2
  obtain ⟨t, a1, b1, b2, b3, b4, L, b5, b6⟩ := hw1 T.heap [] 0 0 _ (by rw [hT]; exact hR) (fun q hq => by cases hq) (by simp) (by simp) hent2 ((T.setVm vm₁).setTop (F0 m pc ls (r.map (mj_lf al))) |>.pushFrame (.java (entryFrame mk (as.map (mj_lf al)).toArray ck.maxLocals))) (by simp [State.pushFrame, State.setFrames, State.setTop, State.modifyTopJava]) Y
  refine ⟨T.setVm vm₁, mk, t, X₁, fun target htg => hst target fun acts => ?_, b2, b3, b4, L, b5, b6⟩
  have e1 : entryFrame mk (as.map (mj_lf al)).toArray ck.maxLocals = F0 mk 0 ((lg_sl (as.map (mj_lf al)) ++ List.replicate (mj_ml P k' - (lg_sl (as.map (mj_lf al))).length) Slot.unset).toArray) [] := by rw [u5, lg_entry_eq]
  rw [hent acts]
  have a2 := (congrArg (fun z => Steps p.tables e (.java (F0 m pc ls (r.map (mj_lf al))) :: below) (State.setTop _ z) t) e1).mpr a1
  exact (Steps.weaken (mid := [_]) a2).trans htg
theorem mj_heapT (T : State) (g : JFrame) : (T.setTop g).heap = T.heap := by simp [State.setTop, State.modifyTopJava]
end MJC
