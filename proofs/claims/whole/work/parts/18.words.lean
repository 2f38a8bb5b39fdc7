/-! the tables' words, at every state whose tables are warmer -/
def mw_G (s0 : State) (w : Cond) : Prop := ∀ (s : State) (args : Array Value), s0.WarmedH s.vm → w.before args s = true
section MJU
variable {P : mj_P} {s0 : State} {args0 : Array Value} {D : va_G} {cl : List vw_C} {al : Nat → Nat} {Ts : List Cond}
theorem mw_of (hts : ∀ w ∈ Ts, w.before args0 s0 = true) {w : Cond} (i : Nat) (hi : Ts[i]? = some w) (hg : goodWord w = true) : mw_G s0 w :=
  fun _ _ hW => word_at hW (good_of_word hg) (hts w (List.mem_of_getElem? hi))
theorem mw_find {C : String} {c : ClassId} (h : s0.vm.findClass C = some c) {s : State} (hW : s0.WarmedH s.vm) : s.vm.findClass C = some c := by
  rw [hW.alike.findClass]
  exact h
theorem mw_V {own C : String} {i ci : Nat} {y : MethodName} (h1 : mw_G s0 (.methodLink own i y)) (h2 : mw_G s0 (.instanceMethod y)) (h3 : mw_G s0 (.selects C y y)) (hC : s0.vm.findClass C = some (D.1 ci)) (hb : Nat.ble 50 ci = false) (hy : mj_nmh y) {s : State} (hW : s0.WarmedH s.vm) (args : Array Value) : mj_cV D cl s args own i y ci :=
  ⟨hb, hy, Or.inl (h1 s args hW), h2 s args hW, C, h3 s args hW, mw_find hC hW⟩
theorem mw_S {own : String} {i : Nat} {y : MethodName} (h1 : mw_G s0 (.methodLink own i y)) (h2 : mw_G s0 (.static y)) (h3 : mw_G s0 (.initialized y.cls)) (hy : mj_nmh y) {s : State} (hW : s0.WarmedH s.vm) (args : Array Value) : mj_cS s args own i y :=
  ⟨hy, Or.inl (h1 s args hW), h2 s args hW, h3 s args hW⟩
theorem mw_I {own : String} {i k : Nat} (h1 : mw_G s0 (.methodLink own i (mj_nm P k))) (h2 : mw_G s0 (.instanceMethod (mj_nm P k))) (h3 : mw_G s0 (.code (mj_nm P k) (mj_by P k) (mj_ml P k) none)) (hn : (mj_nm P k).name = "<init>") (hy : mj_nmh (mj_nm P k)) {s : State} (hW : s0.WarmedH s.vm) (args : Array Value) : mj_cI P s args own i k :=
  ⟨hy, Or.inl (h1 s args hW), h2 s args hW, hn, h3 s args hW⟩
theorem mw_meth {k : Nat} (h : mw_G s0 (.code (mj_nm P k) (mj_by P k) (mj_ml P k) (mj_rt P k))) (hh : mj_hd P k = []) (hp : plainName (mj_nm P k).cls = true) (hd : (parseMethodDescriptor (mj_nm P k).desc).map (fun d => d.parameters.length) = some (mj_na P k)) {U : State} (hW : s0.WarmedH U.vm) : mj_meth P k U := by
  have hw := h U #[] hW
  obtain ⟨mk, hn⟩ := Cond.code_named hw
  obtain ⟨meth, c, h1, h2, h3, h4, h5, h6, h7, h8⟩ := Cond.code_spec hn hw
  refine ⟨mk, meth, c, hn, h1, h2, h3, h4, h5, h6, ?_, ?_, State.plainMethod.of_named (plainFor_of_name hp) hn h1⟩
  · rw [mj_hs, hh]
    simpa [tableOf, Array.isEmpty_iff] using h7
  · rw [h8] at hd
    simpa using hd
theorem mw_methW {k : Nat} (h : mw_G s0 (.codeWith (mj_nm P k) (mj_by P k) (mj_ml P k) (mj_rt P k) (mj_hs P k))) (hp : plainName (mj_nm P k).cls = true) (hd : (parseMethodDescriptor (mj_nm P k).desc).map (fun d => d.parameters.length) = some (mj_na P k)) {U : State} (hW : s0.WarmedH U.vm) : mj_meth P k U := by
  have hw := h U #[] hW
  obtain ⟨mk, meth, c, hn, h1, h2, h3, h4, h5, h6, h7, h8⟩ := Cond.codeWith_spec hw
  refine ⟨mk, meth, c, hn, h1, h2, h3, h4, h6, h7, ?_, ?_, State.plainMethod.of_named (plainFor_of_name hp) hn h1⟩
  · rw [← h5, table_eq]
  · rw [h8] at hd
    simpa using hd
/-- a field, from what the class lays -/
theorem mw_get {own C name desc : String} {T : u_T} {N i ci j : Nat} (hK : u_Kn s0 C T N (D.1 ci) (D.2 ci)) (hl : ∀ k, k < N → (Cond.lays C (T k).1 (T k).2.1 (T k).2.2.1).before args0 s0 = true ∨ (Cond.laysFinal C (T k).1 (T k).2.1 (T k).2.2.1).before args0 s0 = true)
    (hc : cl[ci]? = some (C, T, N)) (hj : j < N) (hT : (T j).1 = C ∧ (T j).2.1 = name ∧ (T j).2.2.1 = desc) (h1 : mw_G s0 (.fieldLink own i C name desc)) (hb : Nat.ble 50 ci = false) {s : State} (hW : s0.WarmedH s.vm) (args : Array Value) : mj_fld D cl s args own i ci j := by
  obtain ⟨t1, t2, t3⟩ := hT
  obtain ⟨hS, hfc, kC, hkC, -⟩ := hK
  obtain ⟨cf, kf, fi, fd, hi, he⟩ := hS j hj
  obtain ⟨f1, -, -⟩ := u_facts hfc hkC (hl j hj) hi
  rw [t1, t2, t3] at hi
  obtain ⟨k', hi', -⟩ := State.fieldFound?_setVm (s := s0) hW.alike hi
  exact ⟨hb, C, name, desc, _, cf, k', fi, fd, hc, hj, hi', f1, he, Or.inl (h1 s args hW)⟩
theorem mw_put {y : MethodName} {C name desc : String} {T : u_T} {N i ci j t : Nat} {ty : FieldType} (hK : u_Kn s0 C T N (D.1 ci) (D.2 ci)) (hl : ∀ k, k < N → (Cond.lays C (T k).1 (T k).2.1 (T k).2.2.1).before args0 s0 = true ∨ (Cond.laysFinal C (T k).1 (T k).2.1 (T k).2.2.1).before args0 s0 = true)
    (hc : cl[ci]? = some (C, T, N)) (hj : j < N) (hT : (T j).1 = C ∧ (T j).2.1 = name ∧ (T j).2.2.1 = desc) (h1 : mw_G s0 (.fieldLink y.cls i C name desc)) (hb : Nat.ble 50 ci = false)
    (hfin : (Cond.lays C C name desc).before args0 s0 = true ∨ (y.cls = C ∧ y.name = "<init>" ∧ (Cond.laysFinal C C name desc).before args0 s0 = true)) (hd : parseFieldDescriptor desc = some ty) (hty : ∀ v : Value, ((t = 0 ∧ ∃ x, v = .int x) ∨ (t = 1 ∧ ∃ x, v = .ref x)) → narrow ty v = v ∧ fits ty v = true)
    (ty0 : Nat → FieldType) (hty0 : ∀ k, k < N → parseFieldDescriptor (T k).2.2.1 = some (ty0 k)) (hnm : ∀ k, k < N → k ≠ j → (T k).2.1 ≠ (T j).2.1) {s : State} (hW : s0.WarmedH s.vm) (args : Array Value) : mj_fpt D cl s args y i ci j t := by
  obtain ⟨t1, t2, t3⟩ := hT
  obtain ⟨hS, hfc, kC, hkC, hkind⟩ := hK
  obtain ⟨cf, kf, fi, fd, hi, he⟩ := hS j hj
  obtain ⟨f1, -, -⟩ := u_facts hfc hkC (hl j hj) hi
  have hap : ∀ j', j' < N → j' ≠ j → D.2 ci j' ≠ D.2 ci j := by
    intro j' hj' hne
    obtain ⟨_, _, _, fa, hia, ea⟩ := hS j' hj'
    rw [← ea, ← he]
    refine u_apart (hl j' hj') (hl j hj) hia hi ?_
    rw [(State.fieldFound?_type hia (hty0 j' hj')).1, (State.fieldFound?_type hi (hty0 j hj)).1]
    exact hnm j' hj' hne
  have hl' := hl j hj
  rw [t1, t2, t3] at hi hl'
  have hval : ∀ v : Value, ((t = 0 ∧ ∃ x, v = .int x) ∨ (t = 1 ∧ ∃ x, v = .ref x)) → narrow fd.type v = v ∧ s.fitsSlot (D.1 ci) .none fd.slot v = true := by
    intro v hv
    obtain ⟨w1, w2⟩ := u_fits hfc hkC hkind hl' hi hd (hty v hv).1 (hty v hv).2
    exact ⟨w1, by rw [show s.fitsSlot = s0.fitsSlot from (show s.fitsSlot = (s0.setVm s.vm).fitsSlot from rfl).trans (State.fitsSlot_setVm hW.alike)]; exact w2⟩
  have hfin' : hasFlag fd.accessFlags Acc.final = false ∨ (s.vm.findClass y.cls = some cf ∧ y.name = "<init>") := by
    rcases hfin with hf | ⟨e1, e2, hf⟩
    · obtain ⟨_, _, _, _, _, _, -, -, hi2, -, g5, -⟩ := Cond.lays_spec hf
      cases hi.symm.trans hi2
      exact Or.inl g5
    · obtain ⟨_, _, _, _, _, _, -, -, hi2, -, -, -, g7, -⟩ := Cond.laysFinal_spec hf
      cases hi.symm.trans hi2
      exact Or.inr ⟨by rw [e1]; exact mw_find g7 hW, e2⟩
  obtain ⟨k', hi', -⟩ := State.fieldFound?_setVm (s := s0) hW.alike hi
  exact ⟨hb, C, name, desc, _, cf, k', fi, fd, hc, hj, hi', f1, he, Or.inl (h1 s args hW), hfin', hval, hap⟩
theorem mw_new {own C : String} {T : u_T} {N i ci : Nat} (hK : u_Kn s0 C T N (D.1 ci) (D.2 ci)) (hl : ∀ k, k < N → (Cond.lays C (T k).1 (T k).2.1 (T k).2.2.1).before args0 s0 = true ∨ (Cond.laysFinal C (T k).1 (T k).2.1 (T k).2.2.1).before args0 s0 = true) (hc : cl[ci]? = some (C, T, N)) (hb : ci < 50)
    (h1 : mw_G s0 (.classLink own i C)) (h2 : mw_G s0 (.instantiable C (P.2.2.2 ci))) (h3 : mw_G s0 (.initialized C)) (hN : (P.2.2.1 ci).length = N) (ty0 : Nat → FieldType) (hty0 : ∀ k, k < N → parseFieldDescriptor (T k).2.2.1 = some (ty0 k)) (hdf : ∀ k, k < N → defaultValue (ty0 k) = vp_V ((P.2.2.1 ci).map (mj_lf al)) k) {s : State} (hW : s0.WarmedH s.vm) (args : Array Value) : mj_nof P D cl al s args own i ci := by
  refine ⟨C, h1 s args hW, h2 s args hW, h3 s args hW, ?_, fun _ => ⟨_, hc, hN, fun kC hkC j hj => ?_⟩⟩
  · rw [if_neg (by omega)]
    exact mw_find hK.2.1 hW
  · obtain ⟨hS, hfc, kC0, hkC0, -⟩ := hK
    obtain ⟨cf, kf, fi, fd, hi, he⟩ := hS j hj
    have h3 := (u_facts hfc hkC0 (hl j hj) hi).2.2
    rw [(State.fieldFound?_type hi (hty0 j hj)).2] at h3
    obtain ⟨k', hk', he'⟩ := hW.alike.2.2 _ _ hkC0
    cases hkC.symm.trans hk'
    rw [← he, ← hdf j hj, he']
    exact k2_blank h3
theorem mw_newE {own C : String} {i cx : Nat} (hC : s0.vm.findClass C = some (D.1 cx)) (h1 : mw_G s0 (.classLink own i C)) (h2 : mw_G s0 (.instantiable C (P.2.2.2 (cx + 50)))) (h3 : mw_G s0 (.initialized C)) {s : State} (hW : s0.WarmedH s.vm) (args : Array Value) : mj_nof P D cl al s args own i (cx + 50) := by
  refine ⟨C, h1 s args hW, h2 s args hW, h3 s args hW, ?_, fun h => absurd h (by omega)⟩
  rw [if_pos (by omega), show cx + 50 - 50 = cx by omega]
  exact mw_find hC hW
end MJU
section MJU2
variable {P : mj_P} {s0 s : State} {args0 args : Array Value} {D : va_G} {cl : List vw_C} {al : Nat → Nat}
theorem mw_ls {o n d : String} (h : (Cond.laysStatic o n d).before args0 s0 = true) (hW : s0.WarmedH s.vm) (hold : ∀ q : Nat, q < s0.heap.size → s.heap[q]? = s0.heap[q]?) : (Cond.laysStatic o n d).before args s = true := by
  obtain ⟨c, k, i, f, a, cell, hc, hi, hst, ha, hcell, hs, hcls, hlt, hty⟩ := Cond.laysStatic_spec h
  obtain ⟨k', hi', he⟩ := State.fieldFound?_setVm (s := s0) hW.alike hi
  have hi2 : s.fieldFound? o n d = some (c, k', i, f) := hi'
  have hc2 := mw_find hc hW
  have ha2 : k'.statics = some a := by rw [he]; exact ha
  have hty2 : k'.staticTypes[f.slot]? = some f.type := by rw [he]; exact hty
  have hcell2 : s.heap[a]? = some cell := by rw [hold a (Array.getElem?_eq_some_iff.mp hcell).1]; exact hcell
  simp [Cond.before, Cond.holds, Cond.value, hc2, hi2, ha2, hcell2, hst, hs, hcls, hlt, hty2]
theorem mw_ir {o n d : String} (h : (Cond.isRef (.static o n d)).before args0 s0 = true) (hl : (Cond.laysStatic o n d).before args0 s0 = true) (hW : s0.WarmedH s.vm) (hold : ∀ q : Nat, q < s0.heap.size → s.heap[q]? = s0.heap[q]?) : (Cond.isRef (.static o n d)).before args s = true := by
  obtain ⟨c, k, i, f, a, cell, hc, hi, hst, ha, hcell, hs, hcls, hlt, hty⟩ := Cond.laysStatic_spec hl
  obtain ⟨v, hv, hr⟩ := Cond.isRef_spec h
  obtain ⟨-, a', cell', ha', hcell', -, hslot⟩ := Term.static_spec hi hv
  cases ha.symm.trans ha'
  cases hcell.symm.trans hcell'
  obtain ⟨k', hi', he⟩ := State.fieldFound?_setVm (s := s0) hW.alike hi
  have hi2 : s.fieldFound? o n d = some (c, k', i, f) := hi'
  have ha2 : k'.statics = some a := by rw [he]; exact ha
  have hcell2 : s.heap[a]? = some cell := by rw [hold a (Array.getElem?_eq_some_iff.mp hcell).1]; exact hcell
  have hev : (Term.static o n d).eval args s none [] s = some v := by simp [Term.eval, State.fieldNamed?, hi2, hst, ha2, hcell2, hs, hslot]
  cases v <;> simp [Value.isRef] at hr <;> simp [Cond.before, Cond.holds, Cond.value, hev]
theorem mw_ca {A B : String} (h : (Cond.castable A B).before args0 s0 = true) (hW : s0.WarmedH s.vm) : (Cond.castable A B).before args s = true := by
  obtain ⟨c, t, h1, h2, h3⟩ := Cond.castable_spec h
  have e1 := mw_find h1 hW
  have e2 := mw_find h2 hW
  have e3 : s.vm.assignable c t = true := by rw [hW.alike.assignable]; exact h3
  simp [Cond.before, Cond.holds, Cond.value, e1, e2, e3]
end MJU2
