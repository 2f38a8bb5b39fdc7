/-! The small machine and the model: a small heap and a heap; a frame and a frame. -/
def mj_lf (al : Nat → Nat) : Value → Value
  | .ref k => .ref (al k)
  | v => v
def mj_ll (al : Nat → Nat) (l : mj_L) : mj_L := l.map fun q => (q.1, mj_lf al q.2)
def mj_el (x : vp_A) (j : Nat) : Value := match x.2 with
  | .inl f => .int (f j)
  | .inr (.inl f) => .long (f j)
  | _ => .null
def mj_at (s0 : State) (D : va_G) (cl : List vw_C) (al : Nat → Nat) (a : Nat) (e : mj_C) (H : Heap) : Prop := match e with
  | .inl (k, x) => ∃ cell : Cell, H[a]? = some cell ∧ s0.isArrayOf cell (mj_ty k) ∧ cell.vm ≠ .unknown ∧ x.1 ≤ cell.slots.size ∧ cell.slots.size.toInt32 = Int32.ofNat x.1 ∧ ∀ j : Nat, j < x.1 → cell.slots[j]? = some (mj_el x j)
  | .inr (ci, fs) => (match Nat.ble 50 ci with
    | true => ∃ kX : Class, s0.vm.classes[D.1 (ci - 50)]? = some kX ∧ H[a]? = some (blank (D.1 (ci - 50)) kX)
    | false => ∃ r : vw_C, cl[ci]? = some r ∧ fs.length = r.2.2 ∧ t_OB a (D.1 ci) r.2.2 (D.2 ci) H (vp_V (fs.map (mj_lf al))))
/-- where the numbers of the small heap lie: 0, 1, 2 and those from 100000 on are old cells; the rest lie in a row behind the old heap -/
def mj_A (al : Nat → Nat) (b : Nat) : Prop := (∀ k, k < 3 → al k < b) ∧ True ∧ ∀ k, 3 ≤ k → k < 100000 → al k + 3 = b + k
def mj_R (s0 : State) (D : va_G) (cl : List vw_C) (al : Nat → Nat) (cm : Nat) (h : mj_H) (H : Heap) : Prop :=
  3 ≤ h.length ∧ h.length ≤ cm ∧ H.size + 3 = s0.heap.size + h.length ∧ (∀ q : Nat, q < s0.heap.size → H[q]? = s0.heap[q]?) ∧ ∀ (k : Nat) (e : mj_C), h[k]? = some e → mj_at s0 D cl al (al k) e H
def mj_oc (al : Nat → Nat) : mj_O → Outcome
  | .inl v => .returned (v.map (mj_lf al))
  | .inr x => .threw (al x)
def mj_End (s0 : State) (D : va_G) (cl : List vw_C) (al : Nat → Nat) (cm : Nat) (below : List Frame) (s : State) (o : mj_O) (h' : mj_H) (mc ms : Nat) : State → Prop := fun t =>
  t.status = .running ∧ Ended t below (mj_oc al o) ∧ mj_R s0 D cl al cm h' t.heap ∧ s.WarmedH t.vm ∧ ∃ L, s.sameButNew ({ t with vm := s.vm } : State) L mc ms ∧ ∀ q ∈ L, s0.heap.size ≤ q.base
/-- the handlers as the code has them -/
def mj_hs (P : mj_P) (k : Nat) : List (Nat × Nat × Nat × Nat) := (mj_hd P k).map fun q => (q.1, q.2.1, q.2.2.1, q.2.2.2.1)
/-- what holds of a frame of the method k, all the time -/
def mj_Fr (P : mj_P) (s0 : State) (cm sm c0 n0 k fr lo : Nat) (p : Program) (l : Launch) (e : Env) (R : Room) (s : State) (m : MethodId) (meth : Method) (c : Code) : Prop :=
  p.tables.exec = Jvm.exec ∧ c.code = mj_by P k ∧ s.vm.findClass (mj_nm P k).cls = some m.cls ∧ meth.name = (mj_nm P k).name ∧ meth.sig.returnType = mj_rt P k ∧ meth.locks = false ∧ c.maxLocals = mj_ml P k ∧
  c.exceptionTable.toList = tableOf (mj_hs P k) ∧ s0.WarmedH s.vm ∧ (∀ q : Nat, q < s0.heap.size → s.heap[q]? = s0.heap[q]?) ∧ s0.heap.size ≤ s.heap.size ∧ R.frames = fr ∧ R.locals = lo ∧ R.cells + c0 = cm ∧ R.slots + n0 = sm
/-- the small frame F over the small heap h comes to the end o, h' -/
def mj_W (P : mj_P) (s0 : State) (D : va_G) (cl : List vw_C) (al : Nat → Nat) (cm sm c0 n0 k : Nat) (p : Program) (l : Launch) (e : Env) (R : Room) (s : State) (m : MethodId) (args : Array Value) (below : List Frame) (meth : Method) (c : Code) (o : mj_O) (h' : mj_H) (F : mj_F) (h : mj_H) : Prop :=
  ∀ (H : Heap) (locs : List Loc) (cells slots : Nat) (ls : Array Slot), mj_R s0 D cl al cm h H → (∀ q ∈ locs, s0.heap.size ≤ q.base) → cells + c0 = h.length → slots + n0 = mj_sl P h → lv_has ls (mj_ml P k) (mj_ll al F.2.1) →
    W p l e R s m args below meth c H locs cells slots (mj_End s0 D cl al cm below s o h' (h'.length - c0) (mj_sl P h' - n0)) (F0 m F.1 ls (F.2.2.map (mj_lf al)))
theorem mj_cat (al : Nat → Nat) (v : Value) : (mj_lf al v).category = v.category := by cases v <;> rfl
theorem mj_ld_mem {i : Nat} {v : Value} : ∀ {l : mj_L}, mj_ld i l = some v → (i, v) ∈ l
  | [], h => by cases h
  | q :: r, h => by
    unfold mj_ld at h
    split at h
    next hq =>
      have e1 : q.1 = i := Nat.eq_of_beq_eq_true hq
      cases h
      subst e1
      exact List.mem_cons_self
    next => exact List.mem_cons_of_mem _ (mj_ld_mem h)
theorem mj_ld_at {al : Nat → Nat} {ls : Array Slot} {n i : Nat} {l : mj_L} {v : Value} (h : lv_has ls n (mj_ll al l)) (hv : mj_ld i l = some v) : ls[i]? = some (.val (mj_lf al v)) :=
  h.2.2 (i, mj_lf al v) (List.mem_map.mpr ⟨(i, v), mj_ld_mem hv, rfl⟩)
theorem mj_ins_mem {i : Nat} {v : Value} {q : Nat × Value} : ∀ {l : mj_L}, q ∈ mj_ins i v l → q = (i, v) ∨ q ∈ l
  | [], h => by
    simp only [mj_ins, List.mem_singleton] at h
    exact Or.inl h
  | x :: r, h => by
    unfold mj_ins at h
    split at h
    · rcases List.mem_cons.mp h with h | h
      · exact Or.inl h
      · exact Or.inr h
    · rcases List.mem_cons.mp h with h | h
      · exact Or.inr (by rw [h]; exact List.mem_cons_self)
      · rcases mj_ins_mem h with h | h
        · exact Or.inl h
        · exact Or.inr (List.mem_cons_of_mem _ h)
theorem mj_ll_filter (al : Nat → Nat) (f : Nat → Nat → Bool) (l : mj_L) : mj_ll al (l.filter fun q => f q.1 q.2.category) = (mj_ll al l).filter fun q => f q.1 q.2.category := by
  induction l with
  | nil => rfl
  | cons q r ih =>
    simp only [mj_ll, List.map_cons, List.filter_cons, mj_cat] at ih ⊢
    split
    · rw [List.map_cons, ih]
    · exact ih
theorem mj_st1_has {al : Nat → Nat} {ls : Array Slot} {n i : Nat} {l : mj_L} {v : Value} (h : lv_has ls n ((i, mj_lf al v) :: (mj_ll al l).filter (fun q => !(q.1 == i) && !(q.1 + 1 == i && q.2.category == 2)))) : lv_has ls n (mj_ll al (mj_st1 i v l)) := by
  refine ⟨h.1, h.2.1, fun q hq => h.2.2 q ?_⟩
  obtain ⟨q0, h1, rfl⟩ := List.mem_map.mp hq
  rcases mj_ins_mem h1 with rfl | h2
  · exact List.mem_cons_self
  · refine List.mem_cons_of_mem _ ?_
    rw [← mj_ll_filter al (fun a b => !(a == i) && !(a + 1 == i && b == 2))]
    exact List.mem_map.mpr ⟨q0, h2, rfl⟩
theorem mj_st2_has {al : Nat → Nat} {ls : Array Slot} {n i : Nat} {l : mj_L} {v : Value} (h : lv_has ls n ((i, mj_lf al v) :: (mj_ll al l).filter (fun q => !(q.1 == i) && (!(q.1 == i + 1) && !(q.1 + 1 == i && q.2.category == 2))))) : lv_has ls n (mj_ll al (mj_st2 i v l)) := by
  refine ⟨h.1, h.2.1, fun q hq => h.2.2 q ?_⟩
  obtain ⟨q0, h1, rfl⟩ := List.mem_map.mp hq
  rcases mj_ins_mem h1 with rfl | h2
  · exact List.mem_cons_self
  · refine List.mem_cons_of_mem _ ?_
    rw [← mj_ll_filter al (fun a b => !(a == i) && (!(a == i + 1) && !(a + 1 == i && b == 2)))]
    exact List.mem_map.mpr ⟨q0, h2, rfl⟩
theorem mj_w_eq (al : Nat → Nat) (st : List Value) : ((st.map (mj_lf al)).map fun v => v.category).sum = mj_w st := by
  induction st with
  | nil => rfl
  | cons v r ih =>
    simp only [List.map_cons, List.sum_cons, mj_w, mj_cat, ih]
