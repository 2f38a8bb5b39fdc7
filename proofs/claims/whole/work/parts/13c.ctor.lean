/-! an exception's constructor with a message, where no trace is kept: the object, and nothing else, is written -/
/-- the words that the making of an exception with a message rests on: the class X under Y (its constructor's bytes, its call's pool entry), Y under r, up to Throwable -/
def mj_ow (own : String) (ic : Nat) (X Y : String) (r : List String) (idx : Nat) (bytes : ByteArray) : List Cond :=
  Bundle.throwableAtoms ++ (Bundle.throwableSAtoms ++ (Bundle.passSAtoms X Y idx bytes ++ (Bundle.chainSAtoms Y r ++
  [.methodLink own ic (Bundle.initS X), .instantiable X 6, .selects X Bundle.tFill0 Bundle.tFill0, .selects X Bundle.tFill Bundle.tFill,
   .lays X Bundle.tN "cause" "Ljava/lang/Throwable;", .lays X Bundle.tN "stackTrace" Bundle.steD, .lays X Bundle.tN "suppressedExceptions" Bundle.listD, .lays X Bundle.tN "detailMessage" "Ljava/lang/String;",
   .isRef (.static Bundle.tN "UNASSIGNED_STACK" Bundle.steD), .isRef (.static Bundle.tN "SUPPRESSED_SENTINEL" Bundle.listD),
   .fieldLink Bundle.tN 198 Bundle.tN "backtrace" "Ljava/lang/Object;", .lays Bundle.tN Bundle.tN "backtrace" "Ljava/lang/Object;", .lays X Bundle.tN "backtrace" "Ljava/lang/Object;"])))
section MJT
variable {p : Program} {l : Launch} {e : Env} {R : Room} {s : State} {m₀ : MethodId} {args : Array Value} {below : List Frame} {meth : Method} {c : Code} {V : State} {locs : List Loc} {cells slots : Nat}
set_option maxHeartbeats 2000000 in
theorem mj_ctor (X : Stand p l e R s m₀ args below meth c V locs cells slots) (hexec : p.tables.exec = Jvm.exec) (htr : e.platform.stackTraces = false) {own cls up : String} {names : List String} {ic idx : Nat} {bytes : ByteArray}
    (hown : s.vm.findClass own = some m₀.cls) (hcls : Bundle.fit cls = true) (hup : Bundle.fit up = true) (hnames : ∀ n ∈ names, Bundle.fit n = true) (k0 : decode bytes 0 = .ok (.aload_n 0, 1)) (k1 : decode bytes 1 = .ok (.aload_n 1, 1)) (k2 : decode bytes 2 = .ok (.invokespecial idx, 3)) (k5 : decode bytes 5 = .ok (.return_, 1)) (h : ∀ a ∈ mj_ow own ic cls up names idx bytes, a.before args s = true)
    {a : Addr} {cX : ClassId} {kX : Class} (hfoundX : s.vm.findClass cls = some cX) (hkX : s.vm.classes[cX]? = some kX) (hcell : V.heap[a]? = some (freshCell cX kX))
    (hS : ∀ (c : ClassId) (k : Class) (q : Nat) (x : Cell), s.vm.findClass Bundle.tN = some c → s.vm.classes[c]? = some k → k.statics = some q → s.heap[q]? = some x → q ≠ a ∧ V.heap[q]? = some x)
    {msg : Value} (hmsg : msg.isRef = true) {g : JFrame} (hg : g.method = m₀) (hsize : g.locals.size = c.maxLocals) {rest : List Value} (hstack : g.stack = msg :: .ref a :: rest) (hd6 : decode c.code g.pc = .ok (.invokespecial ic, 3))
    (hRframes : names.length + 4 < R.frames) (hRlocals : 2 * g.monitorRoom + (rest.map fun v => v.category).sum + (13 * (names.length + 2) + 42) ≤ R.locals) :
    ∃ (vm' : Vm) (cell' : Cell) (L : List Loc), Stand p l e R s m₀ args below meth c ((V.setVm vm').setCell a cell') (locs ++ L) cells slots ∧ cell'.cls = cX ∧ cell'.vm = .none ∧ (∀ q ∈ L, q.base = a) ∧
      ∀ target, Steps p.tables e below (((V.setVm vm').setCell a cell').setTop { g with pc := g.pc + 3, stack := rest }) target → Steps p.tables e below (V.setTop g) target := by
  have howns : e.platform.frameOwnsMonitors = true := by rw [X.admits.platform]
  have hfin : e.platform.finalization = false := by rw [X.admits.platform]
  have hpl : e.platform.magicAccessors = ({} : Platform).magicAccessors := by rw [X.admits.platform]
  have a' : ∀ x, x ∈ mj_ow own ic cls up names idx bytes → x.holds args s none s [] = true := fun x hx => h x hx
  obtain ⟨T, Z0, L, -, Y⟩ := ThrowableC.of_atoms (args := args) howns hfin hpl (fun x hx => h x (by simp [mj_ow, hx]))
  obtain ⟨Z, M, LZ, LM, hnZ⟩ := Init0T.ofS_atoms (args := args) hpl L Y (fun x hx => h x (by simp [mj_ow, hx]))
  obtain ⟨P1, L1, hP1m, hP1s⟩ := PassC.ofS_atoms (args := args) (s := s) hpl (X := cls) (Y := up) (Bundle.fit_spec hcls).1 (Bundle.fit_spec hup).2 k0 k1 k2 k5 (fun x hx => h x (by simp only [mj_ow, List.mem_append]; exact Or.inr (Or.inr (Or.inl hx))))
  obtain ⟨P2, Ps, hlen, L2, hL, hP2m, hlink2, hlink⟩ := Bundle.chainS (args := args) hpl hnZ names up hup hnames (fun x hx => h x (by simp only [mj_ow, List.mem_append]; exact Or.inr (Or.inr (Or.inr (Or.inl hx)))))
  have hlink1 : P1.sup = P2.m := Option.some.inj (hP1s.symm.trans hP2m)
  have hfound : s.vm.findClass cls = some P1.m.cls := findClass_of_methodNamed hP1m
  cases Option.some.inj (hfoundX.symm.trans hfound)
  obtain ⟨c1, kX', hc1, hk, hord, -, -, hn6⟩ := Cond.instantiable_spec (a' (.instantiable cls 6) (by simp [mj_ow]))
  cases Option.some.inj (hc1.symm.trans hfound)
  cases Option.some.inj (hkX.symm.trans hk)
  have hsel0 : selectMethod e.platform s.vm P1.m.cls T.fill0 = .method T.fill0 := by
    obtain ⟨c2, r2, m2, q1, q2, q3, q4, -⟩ := Cond.selects_spec (a' (.selects cls Bundle.tFill0 Bundle.tFill0) (by simp [mj_ow]))
    cases Option.some.inj (q1.symm.trans hfound)
    cases Option.some.inj (q2.symm.trans (State.methodFound?_of_named Y.fill0 (by decide)))
    cases Option.some.inj (q3.symm.trans Y.fill0)
    rw [Launch.admits_selectMethod X.admits]; exact q4
  have hselF : selectMethod e.platform s.vm P1.m.cls T.fill = .method T.fill := by
    obtain ⟨c2, r2, m2, q1, q2, q3, q4, -⟩ := Cond.selects_spec (a' (.selects cls Bundle.tFill Bundle.tFill) (by simp [mj_ow]))
    cases Option.some.inj (q1.symm.trans hfound)
    cases Option.some.inj (q2.symm.trans (State.methodFound?_of_named Y.fill (by decide)))
    cases Option.some.inj (q3.symm.trans Y.fill)
    rw [Launch.admits_selectMethod X.admits]; exact q4
  obtain ⟨cellS0, hcS0, hiss⟩ := Y.statics
  obtain ⟨u0, hu0⟩ := Cond.staticRefV Y.unassigned L.unassignedStatic L.statics hcS0 hiss (a' (.isRef (.static Bundle.tN "UNASSIGNED_STACK" Bundle.steD)) (by simp [mj_ow]))
  obtain ⟨sen, hsen⟩ := Cond.staticRefV Y.sentinel L.sentinelStatic L.statics hcS0 hiss (a' (.isRef (.static Bundle.tN "SUPPRESSED_SENTINEL" Bundle.listD)) (by simp [mj_ow]))
  obtain ⟨ci198, i198, fB, hk198, hg198, ha198, hsB, -, hnB, htB, hffB⟩ := Cond.ownField (t := .object "java/lang/Object") Y.found L.cls (by decide +kernel) (a' (.fieldLink Bundle.tN 198 Bundle.tN "backtrace" "Ljava/lang/Object;") (by simp [mj_ow])) (a' (.lays Bundle.tN Bundle.tN "backtrace" "Ljava/lang/Object;") (by simp [mj_ow])) e.platform hpl
  obtain ⟨hneS, hcellS⟩ := hS _ _ _ _ Y.found L.cls L.statics hcS0
  have hknownS : cellS0.vm ≠ .unknown := by
    intro hu
    rw [hu] at hiss
    cases hiss
  obtain ⟨iM, hffM⟩ := Y.msg
  obtain ⟨tyC, dC, hdC, hdnC⟩ := Cond.laysAt hfound hk Y.cause (a' (.lays cls Bundle.tN "cause" "Ljava/lang/Throwable;") (by simp [mj_ow]))
  obtain ⟨tyS, dS, hdS, hdnS⟩ := Cond.laysAt hfound hk Y.stack (a' (.lays cls Bundle.tN "stackTrace" Bundle.steD) (by simp [mj_ow]))
  obtain ⟨tyP, dP, hdP, hdnP⟩ := Cond.laysAt hfound hk Y.supp (a' (.lays cls Bundle.tN "suppressedExceptions" Bundle.listD) (by simp [mj_ow]))
  obtain ⟨tyM, dM, hdM, hdnM⟩ := Cond.laysAt hfound hk hffM (a' (.lays cls Bundle.tN "detailMessage" "Ljava/lang/String;") (by simp [mj_ow]))
  obtain ⟨tyB, dB, hdB, hdnB⟩ := Cond.laysAt hfound hk hffB (a' (.lays cls Bundle.tN "backtrace" "Ljava/lang/Object;") (by simp [mj_ow]))
  have bC := Cond.laysApart hdB hdC hdnB hdnC (by rw [hnB, Y.causeName]; decide)
  have bS := Cond.laysApart hdB hdS hdnB hdnS (by rw [hnB, Y.stackName]; decide)
  have bP := Cond.laysApart hdB hdP hdnB hdnP (by rw [hnB, Y.suppName]; decide)
  have hskip : SkipFacts T e.platform s (fun u => u) u0 ((preparedCellV T.toThrowableT (freshCell P1.m.cls kX) a u0 sen).withEntry V.cur) :=
    ⟨{ ci198 := ci198, i198 := i198, fBack := fB }, ⟨hk198, hg198, ha198, hsB⟩, by
      have := fresh_default (c := P1.m.cls) tyB
      rw [htB] at this
      simpa [preparedCellV, Cell.setSlot, Cell.withEntry, Array.getElem?_setIfInBounds, bC, bS, bP, bC.symm, bS.symm, bP.symm, defaultValue] using this, fun _ _ => rfl⟩
  obtain ⟨tm, methC, cdC, kC, vm₁, hnC, -, -, -, -, -, -, -, hW₁, st1⟩ := Steps.initColdS (tb := p.tables) (e := e) (below := below) (s := s) (U := V) X.here hexec X.warmed hpl hown (t := Bundle.initS cls) rfl rfl (Bundle.fit_spec hcls).2
    (a' (.methodLink own ic (Bundle.initS cls)) (by simp [mj_ow])) (h (.instanceMethod (Bundle.initS cls)) (by simp [mj_ow, Bundle.passSAtoms])) (bytes := bytes) (maxL := 2) (h (.code (Bundle.initS cls) bytes 2 none) (by simp [mj_ow, Bundle.passSAtoms]))
    (f := g) hg (a := a) (msg := msg) (rest := rest) hstack hd6
  cases Option.some.inj (hnC.symm.trans hP1m)
  have X₁ := X.noted hW₁
  obtain ⟨vm₂, X₂, st2⟩ := X₁.ctorMessageOffV hexec (g := { g with stack := rest }) hg hsize T L Z LZ M LM (P1 :: P2 :: Ps)
    (fun P hP => by
      rcases List.mem_cons.mp hP with rfl | hP
      · exact L1
      · rcases List.mem_cons.mp hP with rfl | hP
        · exact L2
        · exact hL P hP) ⟨hlink1, hlink2, hlink⟩ (u0 := u0) (sen := sen) (self := a) hmsg (cell := freshCell P1.m.cls kX) (cellS := cellS0)
    hcell (fun _ => by simp) (by simp) rfl rfl hsel0 hselF hcellS hneS hknownS hu0 hsen
    (Takes.of_laid hk hord tyC (by rw [Y.causeType]; rfl)) (Takes.of_laid hk hord tyS (by rw [Y.stackType]; exact fits_refV_array _ u0)) (Takes.of_laid hk hord tyP (by rw [Y.suppType]; exact fits_refV_object _ sen))
    (Takes.of_laid hk hord tyM (by rw [Y.msgType]; exact fits_refV_object _ ⟨msg, hmsg⟩)) Y.objLocals hskip htr [] hd6
    (by simp only [List.length_cons, hlen]; omega) (by simp only [List.length_cons, hlen]; exact hRlocals)
  refine ⟨vm₂, _, _, X₂, rfl, rfl, fun q hq => ?_, fun target ht => st1 _ (fun acts => ?_)⟩
  · simp only [List.mem_cons, List.not_mem_nil, or_false] at hq
    rcases hq with rfl | rfl | rfl | rfl | rfl <;> rfl
  · rw [doInvoke_state]
    exact st2 _ ht
end MJT
/-- the constructor of an exception of the class number cx -/
def mj_exf (P : mj_P) (s0 : State) (D : va_G) (cl : List vw_C) (s : State) (args : Array Value) (own : String) (i cx : Nat) : Prop :=
  ∃ (cls up : String) (names : List String) (idx : Nat) (bytes : ByteArray), (Bundle.fit cls = true ∧ Bundle.fit up = true ∧ decode bytes 0 = .ok (.aload_n 0, 1) ∧ decode bytes 1 = .ok (.aload_n 1, 1) ∧ decode bytes 2 = .ok (.invokespecial idx, 3) ∧ decode bytes 5 = .ok (.return_, 1)) ∧ (∀ n ∈ names, Bundle.fit n = true) ∧ names.length ≤ 1 ∧ (∀ w ∈ mj_ow own i cls up names idx bytes, w.before args s = true) ∧ s.vm.findClass cls = some (D.1 cx) ∧
    (∃ r : vw_C, cl[cx]? = some r ∧ r.2.2 = 0) ∧ Nat.ble 50 cx = false ∧ P.2.2.2 (cx + 50) = P.2.2.2 cx ∧
    ∀ (c : ClassId) (k : Class) (q : Nat), s.vm.findClass Bundle.tN = some c → s.vm.classes[c]? = some k → k.statics = some q → q < s0.heap.size
section MJE
variable {P : mj_P} {s0 : State} {D : va_G} {cl : List vw_C} {al : Nat → Nat} {cm sm c0 n0 k fr lo : Nat} {p : Program} {l : Launch} {e : Env} {R : Room} {s : State} {m : MethodId} {args : Array Value} {below : List Frame} {meth : Method} {c : Code} {o : mj_O} {h h' : mj_H} {pc : Nat} {lv : mj_L} {st r : List Value}
theorem mj_s_exc (X : mj_Fr P s0 cm sm c0 n0 k fr lo p l e R s m meth c) (hA : mj_A al s0.heap.size) (hcm : cm ≤ 100000) (htr : ∀ e : Env, l.admits e → e.platform.stackTraces = false) {i cx a q : Nat} {fs : List Value} (hd : decode (mj_by P k) pc = .ok (.invokespecial i, 3)) (hf : mj_exf P s0 D cl s args (mj_nm P k).cls i cx) (ha : h[a]? = some (.inr (cx + 50, fs))) (h3 : 3 ≤ a) (h6 : 6 ≤ fr) (hw : mj_w r + 100 ≤ lo)
    (kk : mj_W P s0 D cl al cm sm c0 n0 k p l e R s m args below meth c o h' (pc + 3, lv, r) (h.set a (.inr (cx, [])))) : mj_W P s0 D cl al cm sm c0 n0 k p l e R s m args below meth c o h' (pc, lv, .ref q :: .ref a :: r) h := by
  intro H locs cells slots ls hR hl hc hs hL T hT XS
  obtain ⟨cls, up, names, idx, bytes, ⟨g1, gu, k0, k1, k2, k5⟩, g2, g3, g4, g5, ⟨rr, g6, g6'⟩, g7, g8, g9⟩ := hf
  obtain ⟨x1, x2, x3, x4, x5, x6, x7, x8, x9, x10, x11, x12, x13, x14, x15⟩ := X
  have hal : a < h.length := (List.getElem?_eq_some_iff.mp ha).1
  have hb : s0.heap.size ≤ al a := hA.old (by have := hR.2.1; omega) h3
  have hat := hR.2.2.2.2 a _ ha
  unfold mj_at at hat
  dsimp only at hat
  rw [show Nat.ble 50 (cx + 50) = true from Nat.ble_eq_true_of_le (by omega), show cx + 50 - 50 = cx by omega] at hat
  obtain ⟨kX, q1, q2⟩ := hat
  obtain ⟨kX', q3, q4⟩ := x9.alike.2.2 _ _ q1
  have hcell : T.heap[al a]? = some (freshCell (D.1 cx) kX') := by
    rw [hT, q2, q4]
    rfl
  obtain ⟨vm', cell', L, XS', e1, e2, e3, est⟩ := mj_ctor XS x1 (htr e XS.admits) x3 g1 gu g2 k0 k1 k2 k5 g4 g5 q3 hcell
    (fun c' k' q' x' f1 f2 f3 f4 => by
      have hq := g9 c' k' q' f1 f2 f3
      refine ⟨by omega, ?_⟩
      rw [hT, hR.2.2.2.1 q' hq, ← x10 q' hq]
      exact f4)
    (msg := .ref (al q)) rfl (g := F0 m pc ls ((Value.ref q :: .ref a :: r).map (mj_lf al))) rfl (by rw [x7]; exact hL.1) (rest := r.map (mj_lf al)) rfl (by rw [x2]; exact hd) (by omega) (by rw [mj_w_eq]; show 2 * 0 + _ + _ ≤ _; omega)
  have hlt : al a < (T.setVm vm').heap.size := (Array.getElem?_eq_some_iff.mp hcell).1
  have hR1 : mj_R s0 D cl al cm (h.set a (.inr (cx, []))) ((T.setVm vm').setCell (al a) cell').heap := by
    refine hR.set hA hcm ha h3 (by rw [size_setCell]; show T.heap.size = _; rw [hT]) (fun z hz => by rw [heapAt_setCell_ne _ (Ne.symm hz)]; show T.heap[z]? = _; rw [hT]) ?_
    unfold mj_at
    dsimp only
    rw [g7]
    refine ⟨rr, g6, g6'.symm, cell', heapAt_setCell_self _ hlt, e1, e2, fun j hj => ?_⟩
    rw [g6'] at hj
    omega
  obtain ⟨t, a1, b1⟩ := kk _ (locs ++ L) cells slots ls hR1 (fun z hz => by
      rcases List.mem_append.mp hz with hz | hz
      · exact hl z hz
      · rw [e3 z hz]; exact hb) (by simpa using hc) (by rw [mj_sl_set P (e0 := .inr (cx + 50, fs)) (e := .inr (cx, [])) g8.symm ha]; exact hs) hL _ rfl XS'
  exact ⟨t, est t a1, b1⟩
end MJE
