theorem mm_htr {l : Launch} (hf : l.flags = flags0) (e : Env) (h : l.admits e) : e.platform.stackTraces = false := by
  rw [h.platform]
  show l.stackTraces = false
  unfold Launch.stackTraces
  rw [hf]
  decide +kernel
def mm_f0 : Nat → Int32 := fun j => if j = 0 then 46 else 0
def mm_f1 : Nat → Int32 := fun j => if j = 0 then 46 else if j = 1 then 46 else 0
def mm_h0 (L : Nat) (xs : Nat → Int32) : mj_H := [.inl (0, (7, .inl mm_f0)), .inl (0, (7, .inl mm_f1)), .inl (3, (L, .inl xs))]
section MMS
variable {s : State} {args : Array Value}
theorem mm_bytes {nm : String} {f : Nat → Int32} (h1 : (Cond.arrayOf (.static "InodeDisk" nm "[B") .byte).before args s = true) (h2 : (Cond.eq (.length (.static "InodeDisk" nm "[B")) (.int 7)).before args s = true)
    (h3 : ∀ j, j < 7 → (Cond.eq (.elem (.static "InodeDisk" nm "[B") (.int (Int32.ofNat j))) (.int (f j))).before args s = true) (hl : (Cond.laysStatic "InodeDisk" nm "[B").before args s = true) (hini : (Cond.initialized "InodeDisk").before args s = true) :
    ∃ t : Nat, t < s.heap.size ∧ va_Z "InodeDisk" nm "[B" (.ref t) (fun x => s.heap.size ≤ x) s s.heap ∧ va_T .byte t 7 (fun j => .int (f j)) (fun x => s.heap.size ≤ x) s s.heap := by
  obtain ⟨t, ht, hT⟩ := va_Tof (A := fun x => s.heap.size ≤ x) (N := 7) (f := fun j => .int (f j)) (by decide) h1 (va_eqt h2) (fun j hj => va_eqt (h3 j hj)) (fun a ha => by omega)
  obtain ⟨cell, hc, hr⟩ := id hT
  exact ⟨t, (Array.getElem?_eq_some_iff.mp hc).1, va_Zof hl hini ht (fun a ha => by omega), hT⟩
theorem mm_noncast {A B : String} {a b : ClassId} (h : (Cond.not (.castable A B)).before args s = true) (ha : s.vm.findClass A = some a) (hb : s.vm.findClass B = some b) : s.vm.assignable a b = false := by
  simpa [Cond.before, Cond.holds, Cond.value, ha, hb] using h
theorem mm_cast {A : String} {a : ClassId} (h : (Cond.castable A A).before args s = true) (ha : s.vm.findClass A = some a) : s.vm.assignable a a = true := by
  obtain ⟨c, t, h1, h2, h3⟩ := Cond.castable_spec h
  cases ha.symm.trans h1
  cases ha.symm.trans h2
  exact h3
theorem mw_de {y : MethodName} (h : (Cond.declares y).before args s = true) {U : State} (hW : s.WarmedH U.vm) {args' : Array Value} : (Cond.declares y).before args' U = true := by
  have h1 : (Cond.declares y).before args (s.setVm U.vm) = true := by rw [Cond.declares_setVm hW.alike]; exact h
  exact h1
/-- the words of an exception's making that do not pass by themselves -/
def mm_sw : List Cond := [.declares (Bundle.initS "java/lang/RuntimeException"), .declares (Bundle.initS "java/lang/Exception"), .declares (Bundle.initS Bundle.tN), .laysStatic Bundle.tN "UNASSIGNED_STACK" Bundle.steD, .laysStatic Bundle.tN "SUPPRESSED_SENTINEL" Bundle.listD, .isRef (.static Bundle.tN "UNASSIGNED_STACK" Bundle.steD), .isRef (.static Bundle.tN "SUPPRESSED_SENTINEL" Bundle.listD)]
theorem mm_exf {D : va_G} {cls : String} {ic cx idx : Nat} {bytes : ByteArray} (hts : ∀ w ∈ lw_tbl, w.before args s = true) (hck : (mj_ow "InodeDisk" ic cls "java/lang/RuntimeException" ["java/lang/Exception"] idx bytes).all (fun w => (goodWord w && decide (w ∈ lw_tbl)) || decide (w ∈ mm_sw)) = true)
    (hcl : Bundle.fit cls = true) (k0 : decode bytes 0 = .ok (.aload_n 0, 1)) (k1 : decode bytes 1 = .ok (.aload_n 1, 1)) (k2 : decode bytes 2 = .ok (.invokespecial idx, 3)) (k5 : decode bytes 5 = .ok (.return_, 1)) (hde : ∀ w ∈ mm_sw.take 3, w.before args s = true) (h1 : (Cond.laysStatic Bundle.tN "UNASSIGNED_STACK" Bundle.steD).before args s = true) (h2 : (Cond.laysStatic Bundle.tN "SUPPRESSED_SENTINEL" Bundle.listD).before args s = true)
    (h3 : (Cond.isRef (.static Bundle.tN "UNASSIGNED_STACK" Bundle.steD)).before args s = true) (h4 : (Cond.isRef (.static Bundle.tN "SUPPRESSED_SENTINEL" Bundle.listD)).before args s = true) (hC : s.vm.findClass cls = some (D.1 cx)) (hr : ∃ r : vw_C, mm_cl[cx]? = some r ∧ r.2.2 = 0) (hb : Nat.ble 50 cx = false) (hP : mm_P.2.2.2 (cx + 50) = mm_P.2.2.2 cx)
    {U : State} (hW : s.WarmedH U.vm) (hO : ∀ q : Nat, q < s.heap.size → U.heap[q]? = s.heap[q]?) (args' : Array Value) : mj_exf mm_P s D mm_cl U args' "InodeDisk" ic cx := by
  refine ⟨cls, "java/lang/RuntimeException", ["java/lang/Exception"], idx, bytes, ⟨hcl, by decide +kernel, k0, k1, k2, k5⟩, by decide +kernel, by decide, fun w hw => ?_, mw_find hC hW, hr, hb, hP, ?_⟩
  · rcases Bool.or_eq_true_iff.mp (List.all_eq_true.mp hck w hw) with h | h
    · obtain ⟨g1, g2⟩ := Bool.and_eq_true_iff.mp h
      exact word_at hW (good_of_word g1) (hts w (of_decide_eq_true g2))
    · have h := of_decide_eq_true h
      simp only [mm_sw, List.mem_cons, List.not_mem_nil, or_false] at h
      rcases h with rfl | rfl | rfl | rfl | rfl | rfl | rfl
      · exact mw_de (hde _ (by simp [mm_sw])) hW
      · exact mw_de (hde _ (by simp [mm_sw])) hW
      · exact mw_de (hde _ (by simp [mm_sw])) hW
      · exact mw_ls h1 hW hO
      · exact mw_ls h2 hW hO
      · exact mw_ir h3 h1 hW hO
      · exact mw_ir h4 h2 hW hO
  · intro c k q f1 f2 f3
    obtain ⟨c', k', i, f, a, cell, hc, hi, hst, ha, hcell, -⟩ := Cond.laysStatic_spec h1
    have hc2 := mw_find hc hW
    cases f1.symm.trans hc2
    obtain ⟨hk0, -⟩ := State.fieldFound?_spec hi
    obtain ⟨k2, hk2, he⟩ := hW.alike.2.2 _ _ hk0
    cases f2.symm.trans hk2
    rw [he] at f3
    cases ha.symm.trans f3
    exact (Array.getElem?_eq_some_iff.mp hcell).1
theorem mm_str {text : String} {i a : Nat} {cur : ClassId} {k : Class} (hown : s.vm.findClass "InodeDisk" = some cur) (hw : (Cond.stringRef "InodeDisk" i text).before args s = true) (hk : s.vm.classes[cur]? = some k) (hr : k.resolved[i]? = some (some (.string a))) {U : State} (hW : s.WarmedH U.vm) (args' : Array Value) :
    ∃ text, (Cond.stringRef "InodeDisk" i text).before args' U = true ∧ (Term.string "InodeDisk" i).eval args' U none [] U = some (.ref a) := by
  obtain ⟨k', hk', he⟩ := hW.alike.2.2 _ _ hk
  have hr' : k'.resolved[i]? = some (some (.string a)) := by
    rcases hW.entry hk hk' i with h | ⟨h, -⟩
    · rw [h]; exact hr
    · rw [hr] at h; cases h
  refine ⟨text, ?_, Term.string_of_entry (mw_find hown hW) hk' hr'⟩
  exact Cond.stringRef_warmed hW hw
end MMS
