theorem mj_at.kept {s0 : State} {D : va_G} {cl : List vw_C} {al : Nat → Nat} {a : Nat} {e : mj_C} {H H1 : Heap} (h : mj_at s0 D cl al a e H) (hq : H1[a]? = H[a]?) : mj_at s0 D cl al a e H1 := by
  rcases e with ⟨k, x⟩ | ⟨ci, fs⟩
  · obtain ⟨cell, h1, h2⟩ := h
    exact ⟨cell, hq.trans h1, h2⟩
  · unfold mj_at at h ⊢
    dsimp only at h ⊢
    split
    next hb =>
      rw [hb] at h
      obtain ⟨kX, h1, h2⟩ := h
      exact ⟨kX, h1, hq.trans h2⟩
    next hb =>
      rw [hb] at h
      obtain ⟨r, h1, h2, h3⟩ := h
      exact ⟨r, h1, h2, h3.kept hq⟩
theorem mj_A.ne {al : Nat → Nat} {b i j : Nat} (hA : mj_A al b) (hi : i < 100000) (hj : j < 100000) (h3 : 3 ≤ j) (hne : i ≠ j) : al i ≠ al j := by
  have e1 := hA.2.2 j h3 hj
  by_cases h : i < 3
  · have := hA.1 i h
    omega
  · have := hA.2.2 i (by omega) hi
    omega
theorem mj_A.old {al : Nat → Nat} {b j : Nat} (hA : mj_A al b) (hj : j < 100000) (h3 : 3 ≤ j) : b ≤ al j := by
  have e1 := hA.2.2 j h3 hj
  omega
theorem mj_R.set {s0 : State} {D : va_G} {cl : List vw_C} {al : Nat → Nat} {cm : Nat} {h : mj_H} {H H1 : Heap} (hA : mj_A al s0.heap.size) (hcm : cm ≤ 100000) (hR : mj_R s0 D cl al cm h H) {a : Nat} {e0 e : mj_C} (ha : h[a]? = some e0) (h3 : 3 ≤ a)
    (z : H1.size = H.size) (oq : ∀ q : Nat, q ≠ al a → H1[q]? = H[q]?) (he : mj_at s0 D cl al (al a) e H1) : mj_R s0 D cl al cm (h.set a e) H1 := by
  obtain ⟨r1, r2, r3, r4, r5⟩ := hR
  have hl : a < h.length := (List.getElem?_eq_some_iff.mp ha).1
  have hb := hA.old (j := a) (by omega) h3
  refine ⟨by simpa using r1, by simpa using r2, by simpa [z] using r3, fun q hq => (oq q (by omega)).trans (r4 q hq), fun k x hk => ?_⟩
  by_cases hka : k = a
  · subst hka
    rw [List.getElem?_set_self hl] at hk
    cases hk
    exact he
  · rw [List.getElem?_set_ne (Ne.symm hka)] at hk
    have hk2 : k < h.length := (List.getElem?_eq_some_iff.mp hk).1
    exact (r5 k x hk).kept (oq _ (hA.ne (by omega) (by omega) h3 hka))
theorem mj_A.size {al : Nat → Nat} {s0 : State} {D : va_G} {cl : List vw_C} {cm : Nat} {h : mj_H} {H : Heap} (hA : mj_A al s0.heap.size) (hcm : cm ≤ 100000) (hR : mj_R s0 D cl al cm h H) (hl : h.length + 1 ≤ cm) : al h.length = H.size := by
  obtain ⟨r1, r2, r3, -⟩ := hR
  have := hA.2.2 h.length r1 (by omega)
  omega
theorem mj_R.push {s0 : State} {D : va_G} {cl : List vw_C} {al : Nat → Nat} {cm : Nat} {h : mj_H} {H H1 : Heap} (hA : mj_A al s0.heap.size) (hcm : cm ≤ 100000) (hR : mj_R s0 D cl al cm h H) (hl : h.length + 1 ≤ cm) {e : mj_C}
    (z : H1.size = H.size + 1) (oq : ∀ q : Nat, q < H.size → H1[q]? = H[q]?) (he : mj_at s0 D cl al H.size e H1) : mj_R s0 D cl al cm (h ++ [e]) H1 := by
  have hs := hA.size hcm hR hl
  obtain ⟨r1, r2, r3, r4, r5⟩ := hR
  refine ⟨by simp; omega, by simpa using hl, by simp; omega, fun q hq => (oq q (by omega)).trans (r4 q hq), fun k x hk => ?_⟩
  by_cases hk2 : k < h.length
  · rw [List.getElem?_append_left hk2] at hk
    refine (r5 k x hk).kept (oq _ ?_)
    by_cases h3 : k < 3
    · have := hA.1 k h3
      omega
    · have := hA.2.2 k (by omega) (by omega)
      omega
  · rw [List.getElem?_append_right (by omega)] at hk
    have hz : k - h.length < 1 := (List.getElem?_eq_some_iff.mp hk).1
    have hke : k = h.length := by omega
    subst hke
    rw [Nat.sub_self] at hk
    cases hk
    rw [hs]
    exact he
theorem mj_sl_push (P : mj_P) (h : mj_H) (e : mj_C) : mj_sl P (h ++ [e]) = mj_sl P h + mj_cs P e := by
  induction h with
  | nil => simp [mj_sl]
  | cons x r ih =>
    simp only [List.cons_append, mj_sl, ih]
    omega
theorem mj_sl_set (P : mj_P) {e0 e : mj_C} (he : mj_cs P e = mj_cs P e0) : ∀ {h : mj_H} {a : Nat}, h[a]? = some e0 → mj_sl P (h.set a e) = mj_sl P h
  | [], a, ha => by simp at ha
  | x :: r, 0, ha => by
    simp only [List.getElem?_cons_zero, Option.some.injEq] at ha
    simp only [List.set_cons_zero, mj_sl, he, ha]
  | x :: r, a + 1, ha => by
    simp only [List.getElem?_cons_succ] at ha
    simp only [List.set_cons_succ, mj_sl, mj_sl_set P he ha]
/-- what the tables say of a field: class number, place in its list -/
def mj_fld (D : va_G) (cl : List vw_C) (s : State) (args : Array Value) (own : String) (i ci j : Nat) : Prop :=
  Nat.ble 50 ci = false ∧ ∃ (ref name desc : String) (r : vw_C) (cf : Nat) (kf : Class) (fi : Nat) (f : Field), cl[ci]? = some r ∧ j < r.2.2 ∧ s.fieldFound? ref name desc = some (cf, kf, fi, f) ∧ f.isStatic = false ∧ f.slot = D.2 ci j ∧
    ((Cond.fieldLink own i ref name desc).before args s = true ∨ ∃ host, (Cond.fieldLinkNest own i ref name desc host).before args s = true)
def mj_fpt (D : va_G) (cl : List vw_C) (s : State) (args : Array Value) (y : MethodName) (i ci j t : Nat) : Prop :=
  Nat.ble 50 ci = false ∧ ∃ (ref name desc : String) (r : vw_C) (cf : Nat) (kf : Class) (fi : Nat) (f : Field), cl[ci]? = some r ∧ j < r.2.2 ∧ s.fieldFound? ref name desc = some (cf, kf, fi, f) ∧ f.isStatic = false ∧ f.slot = D.2 ci j ∧
    ((Cond.fieldLink y.cls i ref name desc).before args s = true ∨ ∃ host, (Cond.fieldLinkNest y.cls i ref name desc host).before args s = true) ∧
    (hasFlag f.accessFlags Acc.final = false ∨ (s.vm.findClass y.cls = some cf ∧ y.name = "<init>")) ∧
    (∀ v : Value, ((t = 0 ∧ ∃ x, v = .int x) ∨ (t = 1 ∧ ∃ x, v = .ref x)) → narrow f.type v = v ∧ s.fitsSlot (D.1 ci) .none f.slot v = true) ∧
    ∀ j', j' < r.2.2 → j' ≠ j → D.2 ci j' ≠ D.2 ci j
def mj_sta (s0 : State) (al : Nat → Nat) (s : State) (args : Array Value) (own : String) (i q : Nat) : Prop :=
  ∃ C n d ref : String, va_Z C n d (.ref (al q)) (fun x => s0.heap.size ≤ x) s s0.heap ∧ (∃ host, (Cond.fieldLinkNest own i ref n d host).before args s = true) ∧ ∀ x, s.fieldFound? C n d = some x → s.fieldFound? ref n d = some x
/-- a class that is made: the word's number of slots is the table's; its fields at birth are the table's -/
def mj_nof (P : mj_P) (D : va_G) (cl : List vw_C) (al : Nat → Nat) (s : State) (args : Array Value) (own : String) (i ci : Nat) : Prop :=
  ∃ C : String, (Cond.classLink own i C).before args s = true ∧ (Cond.instantiable C (P.2.2.2 ci)).before args s = true ∧ (Cond.initialized C).before args s = true ∧
    s.vm.findClass C = some (D.1 (if 50 ≤ ci then ci - 50 else ci)) ∧
    (ci < 50 → ∃ r : vw_C, cl[ci]? = some r ∧ (P.2.2.1 ci).length = r.2.2 ∧ ∀ kC : Class, s.vm.classes[D.1 ci]? = some kC → ∀ j, j < r.2.2 → (blank (D.1 ci) kC).slots[D.2 ci j]? = some (vp_V ((P.2.2.1 ci).map (mj_lf al)) j))
section MJH
variable {P : mj_P} {s0 : State} {D : va_G} {cl : List vw_C} {al : Nat → Nat} {cm sm c0 n0 k fr lo : Nat} {p : Program} {l : Launch} {e : Env} {R : Room} {s : State} {m : MethodId} {args : Array Value} {below : List Frame} {meth : Method} {c : Code} {o : mj_O} {h h' : mj_H} {pc : Nat} {lv : mj_L} {st r : List Value}
theorem mj_s_ldcI (X : mj_Fr P s0 cm sm c0 n0 k fr lo p l e R s m meth c) {i : Nat} {v : Int32} (hd : decode (mj_by P k) pc = .ok (.ldc i, 2)) (hw : (Cond.constant (mj_nm P k).cls i v).before args s = true)
    (kk : mj_W P s0 D cl al cm sm c0 n0 k p l e R s m args below meth c o h' (pc + 2, lv, .int v :: st) h) : mj_W P s0 D cl al cm sm c0 n0 k p l e R s m args below meth c o h' (pc, lv, st) h := by
  intro H locs cells slots ls hR hl hc hs hL
  exact lv_ldc X.1 X.2.1 X.2.2.1 hw hd (kk H locs cells slots ls hR hl hc hs hL)
theorem mj_s_ldc2 (X : mj_Fr P s0 cm sm c0 n0 k fr lo p l e R s m meth c) {i : Nat} {v : Int64} (hd : decode (mj_by P k) pc = .ok (.ldc2_w i, 3)) (hw : (Cond.constantLong (mj_nm P k).cls i v).before args s = true)
    (kk : mj_W P s0 D cl al cm sm c0 n0 k p l e R s m args below meth c o h' (pc + 3, lv, .long v :: st) h) : mj_W P s0 D cl al cm sm c0 n0 k p l e R s m args below meth c o h' (pc, lv, st) h := by
  intro H locs cells slots ls hR hl hc hs hL
  exact lv_ldc2 X.1 X.2.1 X.2.2.1 hw hd (kk H locs cells slots ls hR hl hc hs hL)
theorem mj_s_ldcS (X : mj_Fr P s0 cm sm c0 n0 k fr lo p l e R s m meth c) {i n : Nat} {text : String} (hd : decode (mj_by P k) pc = .ok (.ldc i, 2)) (hw : (Cond.stringRef (mj_nm P k).cls i text).before args s = true) (he : (Term.string (mj_nm P k).cls i).eval args s none [] s = some (.ref (al n)))
    (kk : mj_W P s0 D cl al cm sm c0 n0 k p l e R s m args below meth c o h' (pc + 2, lv, .ref n :: st) h) : mj_W P s0 D cl al cm sm c0 n0 k p l e R s m args below meth c o h' (pc, lv, st) h := by
  intro H locs cells slots ls hR hl hc hs hL
  intro T hT XS
  obtain ⟨t, a1, b1⟩ := kk H locs cells slots ls hR hl hc hs hL T hT XS
  exact ⟨t, XS.ldcString X.1 X.2.2.1 hw he (g := F0 m pc ls (st.map (mj_lf al))) rfl (by rw [X.2.1]; exact hd) t a1, b1⟩
theorem mj_s_ldcw (X : mj_Fr P s0 cm sm c0 n0 k fr lo p l e R s m meth c) {i n : Nat} {text : String} (hd : decode (mj_by P k) pc = .ok (.ldc_w i, 3)) (hw : (Cond.stringRef (mj_nm P k).cls i text).before args s = true) (he : (Term.string (mj_nm P k).cls i).eval args s none [] s = some (.ref (al n)))
    (kk : mj_W P s0 D cl al cm sm c0 n0 k p l e R s m args below meth c o h' (pc + 3, lv, .ref n :: st) h) : mj_W P s0 D cl al cm sm c0 n0 k p l e R s m args below meth c o h' (pc, lv, st) h := by
  intro H locs cells slots ls hR hl hc hs hL
  intro T hT XS
  obtain ⟨t, a1, b1⟩ := kk H locs cells slots ls hR hl hc hs hL T hT XS
  exact ⟨t, XS.ldcStringW X.1 X.2.2.1 hw he (g := F0 m pc ls (st.map (mj_lf al))) rfl (by rw [X.2.1]; exact hd) t a1, b1⟩
theorem mj_s_getf (X : mj_Fr P s0 cm sm c0 n0 k fr lo p l e R s m meth c) {i ci j a : Nat} {fs : List Value} {v : Value} (hd : decode (mj_by P k) pc = .ok (.getfield i, 3)) (hf : mj_fld D cl s args (mj_nm P k).cls i ci j) (ha : h[a]? = some (.inr (ci, fs))) (hv : fs[j]? = some v)
    (kk : mj_W P s0 D cl al cm sm c0 n0 k p l e R s m args below meth c o h' (pc + 3, lv, v :: r) h) : mj_W P s0 D cl al cm sm c0 n0 k p l e R s m args below meth c o h' (pc, lv, .ref a :: r) h := by
  intro H locs cells slots ls hR hl hc hs hL
  obtain ⟨hb, ref, name, desc, rr, cf, kf, fi, f, g1, g2, g3, g4, g5, g6⟩ := hf
  have hat := hR.2.2.2.2 a _ ha
  unfold mj_at at hat
  dsimp only at hat
  rw [hb] at hat
  obtain ⟨r', q1, q2, cell, q3, q4, q5, q6⟩ := hat
  cases g1.symm.trans q1
  have hslot : cell.slots[f.slot]? = some (mj_lf al v) := by
    rw [g5, q6 j g2]
    simp [vp_V, hv]
  have kw := kk H locs cells slots ls hR hl hc hs hL
  rcases g6 with g6 | ⟨host, g6⟩
  · exact W.getf X.1 X.2.1 X.2.2.1 g6 g3 g4 q3 (by rw [q5]; exact fun z => by cases z) hslot rfl rfl hd kw
  · exact va_Wgetf X.1 X.2.1 X.2.2.1 g6 g3 g4 q3 (by rw [q5]; exact fun z => by cases z) hslot rfl rfl hd kw
theorem mj_s_putf (X : mj_Fr P s0 cm sm c0 n0 k fr lo p l e R s m meth c) (hA : mj_A al s0.heap.size) (hcm : cm ≤ 100000) {i ci j t a : Nat} {fs : List Value} {v : Value} (hd : decode (mj_by P k) pc = .ok (.putfield i, 3)) (hf : mj_fpt D cl s args (mj_nm P k) i ci j t) (ha : h[a]? = some (.inr (ci, fs))) (h3 : 3 ≤ a) (hj : j < fs.length)
    (hv : (t = 0 ∧ ∃ x, v = .int x) ∨ (t = 1 ∧ ∃ x, v = .ref x))
    (kk : mj_W P s0 D cl al cm sm c0 n0 k p l e R s m args below meth c o h' (pc + 3, lv, r) (h.set a (.inr (ci, fs.set j v)))) : mj_W P s0 D cl al cm sm c0 n0 k p l e R s m args below meth c o h' (pc, lv, v :: .ref a :: r) h := by
  intro H locs cells slots ls hR hl hc hs hL
  obtain ⟨hb, ref, name, desc, rr, cf, kf, fi, f, g1, g2, g3, g4, g5, g6, g7, g8, g9⟩ := hf
  have hat := hR.2.2.2.2 a _ ha
  unfold mj_at at hat
  dsimp only at hat
  rw [hb] at hat
  obtain ⟨r', q1, q2, cell, q3, q4, q5, q6⟩ := hat
  cases g1.symm.trans q1
  have hal : a < h.length := (List.getElem?_eq_some_iff.mp ha).1
  have hlt : f.slot < cell.slots.size := by
    rw [g5]
    exact (Array.getElem?_eq_some_iff.mp (q6 j g2)).1
  have hv' : (t = 0 ∧ ∃ x, mj_lf al v = .int x) ∨ (t = 1 ∧ ∃ x, mj_lf al v = .ref x) := by
    rcases hv with ⟨e1, x, rfl⟩ | ⟨e1, x, rfl⟩
    · exact Or.inl ⟨e1, x, rfl⟩
    · exact Or.inr ⟨e1, al x, rfl⟩
  obtain ⟨w1, w2⟩ := g8 _ hv'
  have hfin : hasFlag f.accessFlags Acc.final = false ∨ (m.cls = cf ∧ meth.name = "<init>") := by
    rcases g7 with g7 | ⟨g7, g7'⟩
    · exact Or.inl g7
    · exact Or.inr ⟨Option.some.inj (X.2.2.1.symm.trans g7), X.2.2.2.1.trans g7'⟩
  have haH : al a < H.size := (Array.getElem?_eq_some_iff.mp q3).1
  have hR1 : mj_R s0 D cl al cm (h.set a (.inr (ci, fs.set j v))) (H.setIfInBounds (al a) (cell.setSlot f.slot (mj_lf al v))) := by
    refine hR.set hA hcm ha h3 (by simp) (fun q hq => by simp [Array.getElem?_setIfInBounds, Ne.symm hq]) ?_
    unfold mj_at
    dsimp only
    rw [hb]
    refine ⟨rr, g1, by simpa using q2, cell.setSlot f.slot (mj_lf al v), by simp [Array.getElem?_setIfInBounds, haH], q4, q5, fun j' hj' => ?_⟩
    show (cell.slots.setIfInBounds f.slot _)[_]? = _
    by_cases hjj : j' = j
    · subst hjj
      rw [← g5]
      simp [Array.getElem?_setIfInBounds, hlt, vp_V, hj]
    · rw [Array.getElem?_setIfInBounds_ne (by rw [g5]; exact fun z => g9 j' hj' hjj z.symm), q6 j' hj']
      simp [vp_V, List.getElem?_set, Ne.symm hjj]
  have kw := kk _ (locs ++ [⟨al a, f.slot⟩]) cells slots ls hR1 (fun q hq => by
      rcases List.mem_append.mp hq with hq | hq
      · exact hl q hq
      · rw [List.mem_singleton.mp hq]
        exact hA.old (by have := hR.2.1; omega) h3) (by simpa using hc) (by rw [mj_sl_set P (e0 := .inr (ci, fs)) (e := .inr (ci, fs.set j v)) rfl ha]; exact hs) hL
  rcases g6 with g6 | ⟨host, g6⟩
  · exact W.putf X.1 X.2.1 X.2.2.1 g6 g3 g4 hfin q3 (by rw [q5]; exact fun z => by cases z) hlt w1 (by rw [q4, q5]; exact w2) rfl rfl hd kw
  · exact va_Wputf X.1 X.2.1 X.2.2.1 g6 g3 g4 hfin q3 (by rw [q5]; exact fun z => by cases z) hlt w1 (by rw [q4, q5]; exact w2) rfl rfl hd kw
theorem mj_s_gets (X : mj_Fr P s0 cm sm c0 n0 k fr lo p l e R s m meth c) {i q : Nat} (hd : decode (mj_by P k) pc = .ok (.getstatic i, 3)) (hf : mj_sta s0 al s args (mj_nm P k).cls i q)
    (kk : mj_W P s0 D cl al cm sm c0 n0 k p l e R s m args below meth c o h' (pc + 3, lv, .ref q :: st) h) : mj_W P s0 D cl al cm sm c0 n0 k p l e R s m args below meth c o h' (pc, lv, st) h := by
  intro H locs cells slots ls hR hl hc hs hL
  obtain ⟨C, n, d, ref, ⟨cf, kf, fi, f, a, cell, h1, h2, h3, h4, h5, h6, h7, h8⟩, ⟨host, hlink⟩, hsame⟩ := hf
  intro T hT XS
  obtain ⟨vm', X', est⟩ := XS.getstaticNest X.1 X.2.2.1 hlink (hsame _ h1) h2 h3 h4 (by rw [hT, hR.2.2.2.1 a (by omega)]; exact h5) (fun z => by rw [z] at h6; cases h6) h7 (g := F0 m pc ls (st.map (mj_lf al))) rfl (by rw [X.2.1]; exact hd)
  obtain ⟨t, a1, b1⟩ := kk H locs cells slots ls hR hl hc hs hL (T.setVm vm') hT X'
  exact ⟨t, est t a1, b1⟩
theorem mj_s_alen (X : mj_Fr P s0 cm sm c0 n0 k fr lo p l e R s m meth c) {a q : Nat} {x : vp_A} (hd : decode (mj_by P k) pc = .ok (.arraylength, 1)) (ha : h[a]? = some (.inl (q, x)))
    (kk : mj_W P s0 D cl al cm sm c0 n0 k p l e R s m args below meth c o h' (pc + 1, lv, .int (Int32.ofNat x.1) :: r) h) : mj_W P s0 D cl al cm sm c0 n0 k p l e R s m args below meth c o h' (pc, lv, .ref a :: r) h := by
  intro H locs cells slots ls hR hl hc hs hL
  obtain ⟨cell, q1, q2, q3, q4, q5, q6⟩ := hR.2.2.2.2 a _ ha
  exact W.alen X.1 X.2.1 q1 (State.isArrayOf_alike X.2.2.2.2.2.2.2.2.1.alike q2) q5 rfl rfl hd (kk H locs cells slots ls hR hl hc hs hL)
theorem mj_ix_in {i : Int32} {n N j : Nat} (h : mj_ix i n = some j) (hN : n ≤ N) : i.toNatClampNeg = j ∧ j < n ∧ ¬ (i < 0 ∨ N ≤ i.toNatClampNeg) := by
  unfold mj_ix at h
  split at h
  · cases h
  · split at h
    next h0 h1 =>
      cases h
      exact ⟨rfl, h1, fun z => z.elim h0 (fun z => by omega)⟩
    next => cases h
theorem mj_ar_at {h : mj_H} {a k1 k2 : Nat} {q : Nat × vp_A} (hq : mj_ar h a k1 k2 = some q) : h[a]? = some (.inl q) ∧ (q.1 = k1 ∨ q.1 = k2) := by
  unfold mj_ar at hq
  split at hq
  next k x hk =>
    split at hq
    next hb =>
      cases hq
      refine ⟨hk, ?_⟩
      rcases Bool.or_eq_true_iff.mp hb with z | z
      · exact Or.inl (Nat.eq_of_beq_eq_true z)
      · exact Or.inr (Nat.eq_of_beq_eq_true z)
    next => cases hq
  next => cases hq
theorem mj_s_aldI (X : mj_Fr P s0 cm sm c0 n0 k fr lo p l e R s m meth c) {ins : Instr} {a q j k1 k2 : Nat} {i v : Int32} {x : vp_A} (hi : (ins = .iaload ∧ k1 = 3 ∧ k2 = 3) ∨ (ins = .baload ∧ k1 = 0 ∧ k2 = 1) ∨ (ins = .caload ∧ k1 = 2 ∧ k2 = 2)) (hd : decode (mj_by P k) pc = .ok (ins, 1)) (ha : mj_ar h a k1 k2 = some (q, x)) (hj : mj_ix i x.1 = some j) (hv : mj_gi x j = some v)
    (kk : mj_W P s0 D cl al cm sm c0 n0 k p l e R s m args below meth c o h' (pc + 1, lv, .int v :: r) h) : mj_W P s0 D cl al cm sm c0 n0 k p l e R s m args below meth c o h' (pc, lv, .int i :: .ref a :: r) h := by
  intro H locs cells slots ls hR hl hc hs hL
  obtain ⟨hat, hk⟩ := mj_ar_at ha
  obtain ⟨cell, q1, q2, q3, q4, q5, q6⟩ := hR.2.2.2.2 a _ hat
  have q2' := State.isArrayOf_alike X.2.2.2.2.2.2.2.2.1.alike q2
  obtain ⟨e1, e2, e3⟩ := mj_ix_in hj q4
  have hel : cell.slots[i.toNatClampNeg]? = some (.int v) := by
    rw [e1, q6 j e2]
    unfold mj_gi at hv
    unfold mj_el
    split at hv
    next f hf =>
      cases hv
      simp only [hf]
    next => cases hv
  have kw := kk H locs cells slots ls hR hl hc hs hL
  rcases hi with ⟨rfl, rfl, rfl⟩ | ⟨rfl, rfl, rfl⟩ | ⟨rfl, rfl, rfl⟩
  · rcases hk with hk | hk <;> (dsimp only at hk; subst hk; exact W.iald X.1 X.2.1 q1 q2' q3 e3 hel rfl rfl hd kw)
  · rcases hk with hk | hk <;> (dsimp only at hk; subst hk)
    · exact W.bald X.1 X.2.1 q1 q2' q3 e3 hel rfl rfl hd kw
    · exact W.zald X.1 X.2.1 q1 q2' q3 e3 hel rfl rfl hd kw
  · rcases hk with hk | hk <;> (dsimp only at hk; subst hk; exact W.cald X.1 X.2.1 q1 q2' q3 e3 hel rfl rfl hd kw)
theorem mj_s_aldL (X : mj_Fr P s0 cm sm c0 n0 k fr lo p l e R s m meth c) {a q j : Nat} {i : Int32} {v : Int64} {x : vp_A} (hd : decode (mj_by P k) pc = .ok (.laload, 1)) (ha : mj_ar h a 4 4 = some (q, x)) (hj : mj_ix i x.1 = some j) (hv : mj_gl x j = some v)
    (kk : mj_W P s0 D cl al cm sm c0 n0 k p l e R s m args below meth c o h' (pc + 1, lv, .long v :: r) h) : mj_W P s0 D cl al cm sm c0 n0 k p l e R s m args below meth c o h' (pc, lv, .int i :: .ref a :: r) h := by
  intro H locs cells slots ls hR hl hc hs hL
  obtain ⟨hat, hk⟩ := mj_ar_at ha
  obtain ⟨cell, q1, q2, q3, q4, q5, q6⟩ := hR.2.2.2.2 a _ hat
  have q2' := State.isArrayOf_alike X.2.2.2.2.2.2.2.2.1.alike q2
  obtain ⟨e1, e2, e3⟩ := mj_ix_in hj q4
  have hel : cell.slots[i.toNatClampNeg]? = some (.long v) := by
    rw [e1, q6 j e2]
    unfold mj_gl at hv
    unfold mj_el
    split at hv
    next f hf =>
      cases hv
      simp only [hf]
    next => cases hv
  have kw := kk H locs cells slots ls hR hl hc hs hL
  rcases hk with hk | hk <;> (dsimp only at hk; subst hk; exact W.lald X.1 X.2.1 q1 q2' q3 e3 hel rfl rfl hd kw)
/-- behind a store into an array -/
theorem mj_R.ast {s0 : State} {D : va_G} {cl : List vw_C} {al : Nat → Nat} {cm : Nat} {h : mj_H} {H H1 : Heap} (hA : mj_A al s0.heap.size) (hcm : cm ≤ 100000) (hR : mj_R s0 D cl al cm h H) {a q j : Nat} {x y : vp_A} (ha : h[a]? = some (.inl (q, x))) (h3 : 3 ≤ a) (hy : y.1 = x.1) (hj : j < x.1)
    {cell : Cell} (q1 : H[al a]? = some cell) (q2 : s0.isArrayOf cell (mj_ty q)) (q3 : cell.vm ≠ .unknown) (q4 : x.1 ≤ cell.slots.size) (q5 : cell.slots.size.toInt32 = Int32.ofNat x.1) (q6 : ∀ j : Nat, j < x.1 → cell.slots[j]? = some (mj_el x j)) {v : Value}
    (e1 : H1[al a]? = some (cell.setSlot j v)) (e2 : H1.size = H.size) (e3 : ∀ z : Nat, z ≠ al a → H1[z]? = H[z]?) (hel : ∀ i, mj_el y i = if i = j then v else mj_el x i) : mj_R s0 D cl al cm (h.set a (.inl (q, y))) H1 := by
  refine hR.set hA hcm ha h3 e2 e3 ⟨cell.setSlot j v, e1, q2, q3, ?_, ?_, fun i hi => ?_⟩
  · rw [hy]
    show x.1 ≤ (cell.slots.setIfInBounds j v).size
    simpa using q4
  · rw [hy]
    show (cell.slots.setIfInBounds j v).size.toInt32 = _
    simpa using q5
  · rw [hy] at hi
    show (cell.slots.setIfInBounds j v)[i]? = _
    rw [hel i]
    by_cases hij : i = j
    · subst hij
      rw [if_pos rfl]
      simp [Array.getElem?_setIfInBounds, Nat.lt_of_lt_of_le hi q4]
    · rw [if_neg hij, Array.getElem?_setIfInBounds_ne (Ne.symm hij)]
      exact q6 i hi
theorem mj_s_astI (X : mj_Fr P s0 cm sm c0 n0 k fr lo p l e R s m meth c) (hA : mj_A al s0.heap.size) (hcm : cm ≤ 100000) {ins : Instr} {a q j k1 k2 : Nat} {i v : Int32} {x y : vp_A} (hi : (ins = .iastore ∧ k1 = 3 ∧ k2 = 3) ∨ (ins = .bastore ∧ k1 = 0 ∧ k2 = 1) ∨ (ins = .castore ∧ k1 = 2 ∧ k2 = 2)) (hd : decode (mj_by P k) pc = .ok (ins, 1)) (ha : mj_ar h a k1 k2 = some (q, x)) (h3 : 3 ≤ a) (hj : mj_ix i x.1 = some j) (hy : mj_pi q x j v = some y)
    (kk : mj_W P s0 D cl al cm sm c0 n0 k p l e R s m args below meth c o h' (pc + 1, lv, r) (h.set a (.inl (q, y)))) : mj_W P s0 D cl al cm sm c0 n0 k p l e R s m args below meth c o h' (pc, lv, .int v :: .int i :: .ref a :: r) h := by
  intro H locs cells slots ls hR hl hc hs hL
  obtain ⟨hat, hk⟩ := mj_ar_at ha
  obtain ⟨cell, q1, q2, q3, q4, q5, q6⟩ := hR.2.2.2.2 a _ hat
  have q2' := State.isArrayOf_alike X.2.2.2.2.2.2.2.2.1.alike q2
  obtain ⟨e1, e2, e3⟩ := mj_ix_in hj q4
  have hal : a < h.length := (List.getElem?_eq_some_iff.mp hat).1
  have hy1 : y.1 = x.1 ∧ ∀ z, mj_el y z = if z = j then .int (mj_nw q v) else mj_el x z := by
    unfold mj_pi at hy
    split at hy
    next f hf =>
      cases hy
      refine ⟨rfl, fun z => ?_⟩
      simp only [mj_el, hf, upd]
      split <;> rfl
    next => cases hy
  have key : ∀ H1 : Heap, H1[al a]? = some (cell.setSlot i.toNatClampNeg (.int (mj_nw q v))) → H1.size = H.size → (∀ z, z ≠ al a → H1[z]? = H[z]?) →
      W p l e R s m args below meth c H1 (locs ++ [⟨al a, i.toNatClampNeg⟩]) cells slots (mj_End s0 D cl al cm below s o h' (h'.length - c0) (mj_sl P h' - n0)) (F0 m (pc + 1) ls (r.map (mj_lf al))) := by
    intro H1 z1 z2 z3
    rw [e1] at z1 ⊢
    refine kk H1 _ cells slots ls (hR.ast hA hcm hat h3 hy1.1 e2 q1 q2 q3 q4 q5 q6 z1 z2 z3 hy1.2) (fun w hw => ?_) (by simpa using hc) (by rw [mj_sl_set P (e0 := .inl (q, x)) (e := .inl (q, y)) hy1.1 hat]; exact hs) hL
    rcases List.mem_append.mp hw with hw | hw
    · exact hl w hw
    · rw [List.mem_singleton.mp hw]
      exact hA.old (by have := hR.2.1; omega) h3
  rcases hi with ⟨rfl, rfl, rfl⟩ | ⟨rfl, rfl, rfl⟩ | ⟨rfl, rfl, rfl⟩
  · rcases hk with hk | hk <;> (dsimp only at hk; subst hk; exact W.iast X.1 X.2.1 q1 q2' q3 e3 rfl rfl hd key)
  · rcases hk with hk | hk <;> (dsimp only at hk; subst hk)
    · exact W.bast X.1 X.2.1 q1 q2' q3 e3 rfl rfl hd key
    · exact W.zast X.1 X.2.1 q1 q2' q3 e3 rfl rfl hd key
  · rcases hk with hk | hk <;> (dsimp only at hk; subst hk; exact W.cast X.1 X.2.1 q1 q2' q3 e3 rfl rfl hd key)
theorem mj_s_astL (X : mj_Fr P s0 cm sm c0 n0 k fr lo p l e R s m meth c) (hA : mj_A al s0.heap.size) (hcm : cm ≤ 100000) {a q j : Nat} {i : Int32} {v : Int64} {x y : vp_A} (hd : decode (mj_by P k) pc = .ok (.lastore, 1)) (ha : mj_ar h a 4 4 = some (q, x)) (h3 : 3 ≤ a) (hj : mj_ix i x.1 = some j) (hy : mj_pl x j v = some y)
    (kk : mj_W P s0 D cl al cm sm c0 n0 k p l e R s m args below meth c o h' (pc + 1, lv, r) (h.set a (.inl (q, y)))) : mj_W P s0 D cl al cm sm c0 n0 k p l e R s m args below meth c o h' (pc, lv, .long v :: .int i :: .ref a :: r) h := by
  intro H locs cells slots ls hR hl hc hs hL
  obtain ⟨hat, hk⟩ := mj_ar_at ha
  obtain ⟨cell, q1, q2, q3, q4, q5, q6⟩ := hR.2.2.2.2 a _ hat
  have q2' := State.isArrayOf_alike X.2.2.2.2.2.2.2.2.1.alike q2
  obtain ⟨e1, e2, e3⟩ := mj_ix_in hj q4
  have hal : a < h.length := (List.getElem?_eq_some_iff.mp hat).1
  have hy1 : y.1 = x.1 ∧ ∀ z, mj_el y z = if z = j then .long v else mj_el x z := by
    unfold mj_pl at hy
    split at hy
    next f hf =>
      cases hy
      refine ⟨rfl, fun z => ?_⟩
      simp only [mj_el, hf, vp_updL]
      split <;> rfl
    next => cases hy
  have key : ∀ H1 : Heap, H1[al a]? = some (cell.setSlot i.toNatClampNeg (.long v)) → H1.size = H.size → (∀ z, z ≠ al a → H1[z]? = H[z]?) →
      W p l e R s m args below meth c H1 (locs ++ [⟨al a, i.toNatClampNeg⟩]) cells slots (mj_End s0 D cl al cm below s o h' (h'.length - c0) (mj_sl P h' - n0)) (F0 m (pc + 1) ls (r.map (mj_lf al))) := by
    intro H1 z1 z2 z3
    rw [e1] at z1 ⊢
    refine kk H1 _ cells slots ls (hR.ast hA hcm hat h3 hy1.1 e2 q1 q2 q3 q4 q5 q6 z1 z2 z3 hy1.2) (fun w hw => ?_) (by simpa using hc) (by rw [mj_sl_set P (e0 := .inl (q, x)) (e := .inl (q, y)) hy1.1 hat]; exact hs) hL
    rcases List.mem_append.mp hw with hw | hw
    · exact hl w hw
    · rw [List.mem_singleton.mp hw]
      exact hA.old (by have := hR.2.1; omega) h3
  rcases hk with hk | hk <;> (dsimp only at hk; subst hk; exact W.last X.1 X.2.1 q1 q2' q3 e3 rfl rfl hd key)
theorem mj_s_new (X : mj_Fr P s0 cm sm c0 n0 k fr lo p l e R s m meth c) (hA : mj_A al s0.heap.size) (hcm : cm ≤ 100000) {i ci : Nat} (hd : decode (mj_by P k) pc = .ok (.new i, 3)) (hf : mj_nof P D cl al s args (mj_nm P k).cls i ci) (h1 : h.length + 1 ≤ cm) (h2 : mj_sl P h + P.2.2.2 ci ≤ sm)
    (kk : mj_W P s0 D cl al cm sm c0 n0 k p l e R s m args below meth c o h' (pc + 3, lv, .ref h.length :: st) (h ++ [.inr (ci, P.2.2.1 ci)])) : mj_W P s0 D cl al cm sm c0 n0 k p l e R s m args below meth c o h' (pc, lv, st) h := by
  intro H locs cells slots ls hR hl hc hs hL
  obtain ⟨C, g1, g2, g3, g4, g5⟩ := hf
  obtain ⟨x1, x2, x3, x4, x5, x6, x7, x8, x9, x10, x11, x12, x13, x14, x15⟩ := X
  refine W.newcK x1 x2 x3 g1 g2 g3 rfl hd (by omega) (by omega) g4 rfl fun H1 kC hk z1 z2 z3 => ?_
  have hR1 : mj_R s0 D cl al cm (h ++ [.inr (ci, P.2.2.1 ci)]) H1 := by
    refine hR.push hA hcm h1 z2 z3 ?_
    unfold mj_at
    dsimp only
    split
    next hb =>
      have hci : 50 ≤ ci := Nat.le_of_ble_eq_true hb
      rw [if_pos hci] at z1 hk
      obtain ⟨kX, hkX, he⟩ := (x9.alike.symm).2.2 _ _ hk
      refine ⟨kX, hkX, ?_⟩
      rw [z1, he]
      rfl
    next hb =>
      have hci : ¬ 50 ≤ ci := fun z => by rw [Nat.ble_eq_true_of_le z] at hb; cases hb
      rw [if_neg hci] at z1 hk
      obtain ⟨rr, w1, w2, w3⟩ := g5 (by omega)
      exact ⟨rr, w1, w2, _, z1, rfl, rfl, fun j hj => w3 kC hk j hj⟩
  have hsz := hA.size hcm hR h1
  have kw := kk H1 locs (cells + 1) (slots + P.2.2.2 ci) ls hR1 hl (by simp; omega) (by rw [mj_sl_push]; simp only [mj_cs]; omega) hL
  have e1 : (Value.ref h.length :: st).map (mj_lf al) = .ref H.size :: st.map (mj_lf al) := by rw [← hsz]; rfl
  rw [e1] at kw
  exact kw
theorem mj_s_newa (X : mj_Fr P s0 cm sm c0 n0 k fr lo p l e R s m meth c) (hA : mj_A al s0.heap.size) (hcm : cm ≤ 100000) {t : ArrayType} {q : Nat} {n : Int32} (hd : decode (mj_by P k) pc = .ok (.newarray t, 2)) (hq : mj_ka t = some q) (hw : (Cond.arrayClass (newarray.typeOf t)).before args s = true) (hn : ¬ n < 0) (h0 : n.toNatClampNeg ≤ 65536) (h1 : h.length + 1 ≤ cm) (h2 : mj_sl P h + n.toNatClampNeg ≤ sm)
    (kk : mj_W P s0 D cl al cm sm c0 n0 k p l e R s m args below meth c o h' (pc + 2, lv, .ref h.length :: r) (h ++ [.inl (q, mj_new q n.toNatClampNeg)])) : mj_W P s0 D cl al cm sm c0 n0 k p l e R s m args below meth c o h' (pc, lv, .int n :: r) h := by
  intro H locs cells slots ls hR hl hc hs hL
  obtain ⟨x1, x2, x3, x4, x5, x6, x7, x8, x9, x10, x11, x12, x13, x14, x15⟩ := X
  have hbytes : n.toNatClampNeg * componentBytes (newarray.typeOf t) ≤ 536870912 := by
    have hcb : componentBytes (newarray.typeOf t) ≤ 8 := by cases t <;> decide
    calc n.toNatClampNeg * componentBytes (newarray.typeOf t) ≤ 65536 * 8 := Nat.mul_le_mul h0 hcb
      _ ≤ 536870912 := by decide
  have hnew : (mj_new q n.toNatClampNeg).1 = n.toNatClampNeg := by
    unfold mj_new
    split <;> rfl
  refine W.newaK x1 x2 hw rfl hd rfl hn rfl hbytes (by omega) (by omega) rfl fun H1 cA z1 z2 z3 hArr => ?_
  have hR1 : mj_R s0 D cl al cm (h ++ [.inl (q, mj_new q n.toNatClampNeg)]) H1 := by
    refine hR.push hA hcm h1 z2 z3 ⟨_, z1, ?_, (fun z => by cases z), ?_, ?_, ?_⟩
    · have := State.isArrayOf_alike x9.alike.symm (hArr n.toNatClampNeg (fun _ => defaultValue (newarray.typeOf t)))
      cases t <;> simp only [mj_ka] at hq <;> first | (cases hq; exact this) | cases hq
    · rw [arrV_size, hnew]
      exact Nat.le_refl _
    · rw [arrV_size, hnew]
    · intro j hj
      rw [hnew] at hj
      rw [arrV_read _ _ hj]
      cases t <;> simp only [mj_ka] at hq <;> first | (cases hq; rfl) | cases hq
  have hsz := hA.size hcm hR h1
  have kw := kk H1 locs (cells + 1) (slots + n.toNatClampNeg) ls hR1 hl (by simp; omega) (by rw [mj_sl_push]; simp only [mj_cs, hnew]; omega) hL
  have e1 : (Value.ref h.length :: r).map (mj_lf al) = .ref H.size :: r.map (mj_lf al) := by rw [← hsz]; rfl
  rw [e1] at kw
  exact kw
theorem mj_s_obj (X : mj_Fr P s0 cm sm c0 n0 k fr lo p l e R s m meth c) {i a : Nat} (hd : decode (mj_by P k) pc = .ok (.invokespecial i, 3)) (w1 : (Cond.methodLink (mj_nm P k).cls i Lib.objectInit).before args s = true) (w2 : (Cond.instanceMethod Lib.objectInit).before args s = true) (w3 : (Cond.code Lib.objectInit ⟨#[0xb1]⟩ 1 none).before args s = true) (h1 : 1 ≤ fr) (h2 : mj_w r + 12 ≤ lo)
    (kk : mj_W P s0 D cl al cm sm c0 n0 k p l e R s m args below meth c o h' (pc + 3, lv, r) h) : mj_W P s0 D cl al cm sm c0 n0 k p l e R s m args below meth c o h' (pc, lv, .ref a :: r) h := by
  intro H locs cells slots ls hR hl hc hs hL
  obtain ⟨x1, x2, x3, x4, x5, x6, x7, x8, x9, x10, x11, x12, x13, x14, x15⟩ := X
  refine W.objInit x1 x2 x3 w1 w2 w3 (g := F0 m pc ls ((Value.ref a :: r).map (mj_lf al))) rfl (by rw [x7]; exact hL.1) (rest := r.map (mj_lf al)) rfl hd (by omega) ?_ (kk H locs cells slots ls hR hl hc hs hL)
  rw [mj_w_eq]
  show 2 * 0 + _ + 12 ≤ _
  omega
end MJH
