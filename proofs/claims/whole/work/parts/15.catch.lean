/-! a handler's class that may still be open: the search books it -/
section MJX
variable {Q : Handler → Pre} {E : CtlPost} {e : Env} {d : Bool} {acts : List Action} {s : State} {f : JFrame} {a : Addr}
theorem mj_goF {x : ExceptionTableEntry} {t : List ExceptionTableEntry} {c : ClassId} {cell : Cell} (hx : covers x f.pc = true) (h0 : x.catchType ≠ 0) (hl : s.vm.ClassLinks e.platform f.method.cls x.catchType c) (hcell : s.heap[a]? = some cell) (hobj : ∀ k, cell.vm ≠ .statics k)
    (hk : ∃ k, s.vm.classes[cell.cls]? = some k) (hc : ∃ k, s.vm.classes[c]? = some k) (hfit : s.vm.assignable cell.cls c = true) :
    wp (findHandler.go f a (x :: t)) Q E e d acts s ↔ Q (.found x.handlerPc) d acts (s.setVm (s.vm.noted f.method.cls x.catchType (.cls c))) := by
  simp only [covers] at hx
  obtain ⟨ha, ht⟩ := (resolveClass_links e.toSetting hl).op (op := VmOp.resolveClass f.method.cls x.catchType) rfl
  have hal : s.vm.Alike (s.vm.noted f.method.cls x.catchType (.cls c)) := (Vm.Alike.refl s.vm).noted _ _ _
  obtain ⟨k1, hk1⟩ := hk
  obtain ⟨k2, hk2⟩ := hc
  obtain ⟨k1', hk1', -⟩ := hal.2.2 _ _ hk1
  obtain ⟨k2', hk2', -⟩ := hal.2.2 _ _ hk2
  have hfit' : (s.vm.noted f.method.cls x.catchType (.cls c)).assignable cell.cls c = true := by rw [hal.assignable]; exact hfit
  simp [findHandler.go, hx, h0, ha, ht, hcell, hobj, hk1', hk2', hfit', VmOp.dirties, VmOp.acts]
theorem mj_goP {x : ExceptionTableEntry} {t : List ExceptionTableEntry} {c : ClassId} {cell : Cell} (hx : covers x f.pc = true) (h0 : x.catchType ≠ 0) (hl : s.vm.ClassLinks e.platform f.method.cls x.catchType c) (hcell : s.heap[a]? = some cell) (hobj : ∀ k, cell.vm ≠ .statics k)
    (hk : ∃ k, s.vm.classes[cell.cls]? = some k) (hc : ∃ k, s.vm.classes[c]? = some k) (hfit : s.vm.assignable cell.cls c = false) :
    wp (findHandler.go f a (x :: t)) Q E e d acts s ↔ wp (findHandler.go f a t) Q E e d acts (s.setVm (s.vm.noted f.method.cls x.catchType (.cls c))) := by
  simp only [covers] at hx
  obtain ⟨ha, ht⟩ := (resolveClass_links e.toSetting hl).op (op := VmOp.resolveClass f.method.cls x.catchType) rfl
  have hal : s.vm.Alike (s.vm.noted f.method.cls x.catchType (.cls c)) := (Vm.Alike.refl s.vm).noted _ _ _
  obtain ⟨k1, hk1⟩ := hk
  obtain ⟨k2, hk2⟩ := hc
  obtain ⟨k1', hk1', -⟩ := hal.2.2 _ _ hk1
  obtain ⟨k2', hk2', -⟩ := hal.2.2 _ _ hk2
  have hfit' : (s.vm.noted f.method.cls x.catchType (.cls c)).assignable cell.cls c = false := by rw [hal.assignable]; exact hfit
  simp [findHandler.go, hx, h0, ha, ht, hcell, hobj, hk1', hk2', hfit', VmOp.dirties, VmOp.acts]
end MJX
/-- the handlers' classes: linked, and told apart -/
def mj_hok (P : mj_P) (D : va_G) (s : State) (args : Array Value) (k : Nat) : Prop := ∀ q ∈ mj_hd P k, (q.2.2.2.1 ≠ 0 ∧ q.2.2.2.2 < 4) ∧ ∃ C : String, (Cond.classLink (mj_nm P k).cls q.2.2.2.1 C).before args s = true ∧ s.vm.findClass C = some (D.1 q.2.2.2.2)
def mj_exs (D : va_G) (s : State) (cx : Nat) : Prop := (∃ kx, s.vm.classes[D.1 cx]? = some kx) ∧ ∀ cc, cc < 4 → s.vm.assignable (D.1 cx) (D.1 cc) = Nat.beq cx cc
theorem mj_none {pc cx : Nat} : ∀ {L : List (Nat × Nat × Nat × Nat × Nat)}, mj_find L pc cx = some none → ∀ x ∈ tableOf (L.map fun q => (q.1, q.2.1, q.2.2.1, q.2.2.2.1)), covers x pc = false
  | [], _, x, hx => by cases hx
  | (s, t, hp, i, cc) :: r, h, x, hx => by
    unfold mj_find at h
    split at h
    next hb =>
      split at h
      · cases h
      · split at h <;> cases h
    next hb =>
      simp only [tableOf, List.map_cons, List.mem_cons] at hx
      rcases hx with rfl | hx
      · simp only [covers]
        cases hq : (decide (s ≤ pc) && decide (pc < t)) with
        | false => rfl
        | true =>
          simp only [Bool.and_eq_true, decide_eq_true_eq] at hq
          rw [Bool.and_eq_false_iff] at hb
          rcases hb with hb | hb
          · rw [Nat.ble_eq_true_of_le hq.1] at hb
            cases hb
          · have : Nat.blt pc t = true := Nat.ble_eq_true_of_le hq.2
            rw [this] at hb
            cases hb
      · exact mj_none h x (by simpa [tableOf] using hx)
/-- the search has found a handler, and left these tables -/
def mj_fd (e : Env) (s : State) (f : JFrame) (a : Addr) (hp : Nat) (vm' : Vm) : Prop := ∀ (Q : Handler → Pre) (E : CtlPost) (d : Bool) (acts : List Action), wp (findHandler f a) Q E e d acts s ↔ Q (.found hp) d acts (s.setVm vm')
theorem mj_stepC {e : Env} {s : State} {a : Addr} {f : JFrame} {r : List Frame} {pc : Nat} {vm' : Vm} (hfind : mj_fd e s f a pc vm') : (stepThrowing e s a (.java f :: r)).Is ((s.setVm vm').setFrames (.java { f with pc := pc, stack := [.ref a] } :: r)) [] := by
  simp only [stepThrowing, searchFrame, vmDo]
  generalize hr : Sem.go _ e false [] s = res
  obtain ⟨as, rfl, ha⟩ := Sem.eq_ok_of hr (a := Handler.found pc) (s' := s.setVm vm') (acts' := []) (by simp [hfind _ _ _ _])
  exact ⟨rfl, ha⟩
theorem mj_caught {tb : Tables} {e : Env} {s target : State} {g : JFrame} {c : Code} {below : List Frame} {a : Addr} (h : At s g.method c below) {pc : Nat} {vm' : Vm} (hfind : mj_fd e ((s.setTop g).pushFrame (.throwing a)) g a pc vm')
    (hrest : Steps tb e below ((s.setVm vm').setTop { g with pc := pc, stack := [.ref a] }) target) : Steps tb e below ((s.setTop g).pushFrame (.throwing a)) target := by
  obtain ⟨hgo, hw⟩ := h.throwing a
  refine Steps.head hgo hw ?_
  rw [stepThread_throwing (frames_entered h.top _), (mj_stepC hfind).1]
  obtain ⟨g₀, hg⟩ := Option.isSome_iff_exists.mp h.top
  obtain ⟨r, hr⟩ := State.topJava?_eq_some.mp hg
  have hr' : (s.setVm vm').frames = .java g₀ :: r := hr
  rw [State.setTop_of_frames _ hr'] at hrest
  have e1 : (((s.setTop g).pushFrame (.throwing a)).setVm vm').setFrames (.java { g with pc := pc, stack := [.ref a] } :: s.frames.tail) = (s.setVm vm').setFrames (.java { g with pc := pc, stack := [.ref a] } :: r) := by
    rw [hr, List.tail_cons, State.pushFrame, State.setTop_of_frames _ hr]
    show (((s.setFrames _).setFrames _).setVm vm').setFrames _ = _
    rw [State.setFrames_setFrames]
    show ((s.setVm vm').setFrames _).setFrames _ = _
    rw [State.setFrames_setFrames]
  rw [e1]
  exact hrest
section MJY
variable {P : mj_P} {s0 : State} {D : va_G} {cl : List vw_C} {al : Nat → Nat} {cm sm c0 n0 k fr lo : Nat} {p : Program} {l : Launch} {e : Env} {R : Room} {s : State} {m : MethodId} {args : Array Value} {below : List Frame} {meth : Method} {c : Code} {T : State} {locs : List Loc} {cells slots : Nat} {pc : Nat} {ls : Array Slot}
theorem mj_search {own : String} (hown : s.vm.findClass own = some m.cls) (hpl : e.platform.magicAccessors = ({} : Platform).magicAccessors) {g : JFrame} (hg : g.method = m) (hgp : g.pc = pc) {a cx hp : Nat} {cell : Cell} {S : State} (hcell : S.heap[a]? = some cell) (hobj : ∀ z, cell.vm ≠ .statics z) (hcls : cell.cls = D.1 cx) (hex : mj_exs D s cx) :
    ∀ (L : List (Nat × Nat × Nat × Nat × Nat)), (∀ q ∈ L, (q.2.2.2.1 ≠ 0 ∧ q.2.2.2.2 < 4) ∧ ∃ C : String, (Cond.classLink own q.2.2.2.1 C).before args s = true ∧ s.vm.findClass C = some (D.1 q.2.2.2.2)) → mj_find L pc cx = some (some hp) → ∀ vm₁, s.WarmedH vm₁ →
      ∃ vm₂, s.WarmedH vm₂ ∧ ∀ (Q : Handler → Pre) (E : CtlPost) (d : Bool) (acts : List Action), wp (findHandler.go g a (tableOf (L.map fun q => (q.1, q.2.1, q.2.2.1, q.2.2.2.1)))) Q E e d acts (S.setVm vm₁) ↔ Q (.found hp) d acts (S.setVm vm₂)
  | [], _, h, _, _ => by cases h
  | (sp, ep, hq, i, cc) :: r, hL, h, vm₁, hW => by
    obtain ⟨⟨h0, h4⟩, C, hlink, hC⟩ := hL _ List.mem_cons_self
    have hL' := fun q hq => hL q (List.mem_cons_of_mem _ hq)
    unfold mj_find at h
    split at h
    next hb =>
      have hcov : covers (⟨sp, ep, hq, i⟩ : ExceptionTableEntry) g.pc = true := by
        obtain ⟨b1, b2⟩ := Bool.and_eq_true_iff.mp hb
        have b1 := Nat.le_of_ble_eq_true b1
        have b2 : pc < ep := Nat.le_of_ble_eq_true b2
        simp only [covers, hgp, Bool.and_eq_true, decide_eq_true_eq]
        exact ⟨b1, b2⟩
      obtain ⟨cT, hcT, hcl⟩ := Cond.classLink_spec hown hlink e.platform hpl
      cases hC.symm.trans hcT
      obtain ⟨dk, _, _, kt, hd, _, _, _, _, hkt, _, hopen⟩ := hcl.here
      have hcl₀ := hW.classLinks hcl
      have hW' : s.WarmedH (vm₁.noted m.cls i (.cls (D.1 cc))) := hW.noted hd hopen (State.rightAt_cls hcl)
      obtain ⟨kt', hkt', -⟩ := hW.alike.2.2 _ _ hkt
      obtain ⟨kx, hkx⟩ := hex.1
      obtain ⟨kx', hkx', -⟩ := hW.alike.2.2 _ _ hkx
      have hfit : (S.setVm vm₁).vm.assignable cell.cls (D.1 cc) = Nat.beq cx cc := by
        show vm₁.assignable _ _ = _
        rw [hW.alike.assignable, hcls]
        exact hex.2 cc h4
      split at h
      next hbe =>
        cases h
        refine ⟨_, hW', fun Q E d acts => ?_⟩
        subst hg
        exact mj_goF (s := S.setVm vm₁) (x := ⟨sp, ep, hp, i⟩) hcov h0 hcl₀ hcell hobj ⟨kx', by rw [hcls]; exact hkx'⟩ ⟨kt', hkt'⟩ (by rw [hfit]; exact hbe)
      next hbe =>
        split at h
        next q' hq' =>
          cases h
          obtain ⟨vm₂, hW₂, hf⟩ := mj_search hown hpl hg hgp hcell hobj hcls hex r hL' hq' _ hW'
          refine ⟨vm₂, hW₂, fun Q E d acts => ?_⟩
          refine Iff.trans ?_ (hf Q E d acts)
          subst hg
          exact mj_goP (s := S.setVm vm₁) (x := ⟨sp, ep, hq, i⟩) hcov h0 hcl₀ hcell hobj ⟨kx', by rw [hcls]; exact hkx'⟩ ⟨kt', hkt'⟩ (by rw [hfit]; exact hbe)
        next => cases h
    next hb =>
      obtain ⟨vm₂, hW₂, hf⟩ := mj_search hown hpl hg hgp hcell hobj hcls hex r hL' h vm₁ hW
      refine ⟨vm₂, hW₂, fun Q E d acts => ?_⟩
      refine Iff.trans ?_ (hf Q E d acts)
      refine W.findHandler_go_skip (x := ⟨sp, ep, hq, i⟩) ?_
      simp only [covers, hgp]
      cases hq : (decide (sp ≤ pc) && decide (pc < ep)) with
      | false => rfl
      | true =>
        simp only [Bool.and_eq_true, decide_eq_true_eq] at hq
        rw [Bool.and_eq_false_iff] at hb
        rcases hb with hb | hb
        · rw [Nat.ble_eq_true_of_le hq.1] at hb
          cases hb
        · have : Nat.blt pc ep = true := Nat.ble_eq_true_of_le hq.2
          rw [this] at hb
          cases hb
theorem mj_catch (X : mj_Fr P s0 cm sm c0 n0 k fr lo p l e R s m meth c) (XS : Stand p l e R s m args below meth c T locs cells slots) (hok : mj_hok P D s args k) {a cx hp : Nat} {cell : Cell} (hcell : T.heap[a]? = some cell) (hvm : cell.vm = .none) (hcls : cell.cls = D.1 cx) (hex : mj_exs D s cx) (hf : mj_find (mj_hd P k) pc cx = some (some hp)) (rest : List Value) :
    ∃ vm', Stand p l e R s m args below meth c (T.setVm vm') locs cells slots ∧ ∀ target, Steps p.tables e below ((T.setVm vm').setTop (F0 m hp ls [.ref a])) target → Steps p.tables e below ((T.setTop (F0 m pc ls rest)).pushFrame (.throwing a)) target := by
  obtain ⟨x1, x2, x3, x4, x5, x6, x7, x8, x9, x10, x11, x12, x13, x14, x15⟩ := X
  have hpl : e.platform.magicAccessors = ({} : Platform).magicAccessors := by rw [XS.admits.platform]
  have hS : ((T.setTop (F0 m pc ls rest)).pushFrame (.throwing a)).heap = T.heap := rfl
  obtain ⟨vm₂, hW₂, hfd⟩ := mj_search (args := args) (g := F0 m pc ls rest) x3 hpl rfl rfl (S := (T.setTop (F0 m pc ls rest)).pushFrame (.throwing a)) (cell := cell) (by rw [hS]; exact hcell) (fun z hz => by rw [hvm] at hz; cases hz) hcls hex (mj_hd P k) hok hf T.vm XS.warmed
  refine ⟨vm₂, XS.noted hW₂, fun target ht => mj_caught (g := F0 m pc ls rest) XS.here (vm' := vm₂) ?_ ht⟩
  intro Q E d acts
  rw [W.findHandler_eq (meth := meth) (code := c) XS.method' XS.code, x8]
  exact hfd Q E d acts
end MJY
