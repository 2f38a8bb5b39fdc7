/-! THE CLAIM OUT OF ONE WALK OF THE LAW'S BODY. Your part is whole_start (and what it stands on); all else here is the same for every law, but numbers. -/
def R_law : String := "InodeDiskLaw"
def lw_P (b : Addr) (xs : List Int32) (args : Array Value) (s : State) : Prop := args = #[.ref b] ∧ s.IntsAt b xs ∧ xs.length ≤ 2560 ∧ (Jvm.Cond.and given_1 narrow_1).before args s = true
def lw_Q (_ : Array Value) (s : State) (o : Outcome) (t : State) : Prop := o = .returned (some (.int 1)) ∧ Framed s o t [] 1071 12984
def lw_Z (below : List Frame) (a : Array Value) (s : State) : State → Prop := fun t => ∃ o, t.status = .running ∧ Ended t below o ∧ lw_Q a s o t
/-- the law's own end, with 1 on the stack, nothing written that was there before, its room as the claim has it -/
theorem lw_ret {p : Program} {l : Launch} {e : Env} {s : State} {m : MethodId} {below : List Frame} {meth : Method} {c : Code} {b : Nat} (hx : p.tables.exec = Jvm.exec) (hb : c.code = code) (hr : meth.sig.returnType = ret) (hlocks : meth.locks = false) {pc : Nat} {H : Heap} {ls : Array Slot} (hdg : decode code pc = .ok (.ireturn, 1)) : W p l e room_1 s m #[Value.ref b] below meth c H [] 1071 12984 (lw_Z below #[Value.ref b] s) (F0 m pc ls [.int 1]) := by
  intro T hT X
  obtain ⟨fs, hret, hrun, hended, hW, hframe⟩ := X.leave (v := some (.int 1)) (hlocks := hlocks) (fun h => by rw [hr] at h; cases h)
  have hmeth' : T.vm.method? m = some meth := X.method'
  refine ⟨T.setFrames fs, ?_, .returned (some (.int 1)), hrun, hended, rfl, ⟨_, rfl⟩, hW, hframe⟩
  jvm_step X.here [X.here.top, hx, hb, hdg, hmeth', hr, ret, narrow_b1]
  (try refine ⟨rfl, ?_⟩); (try refine ⟨rfl, ?_⟩)
  first | (intro acts; rw [hret _ acts rfl rfl rfl]) | rw [hret _ _ rfl rfl rfl]
  exact Steps.refl _
/-- what holds at the law's entry -/
def lw_At (p : Program) (s : State) (m : MethodId) (meth : Method) (c : Code) (b L : Nat) (xs : Nat → Int32) : Prop :=
  p.tables.exec = Jvm.exec ∧ c.code = code ∧ meth.sig.returnType = ret ∧ c.maxLocals = 8 ∧ s.vm.findClass R_law = some m.cls ∧ (∀ w ∈ lw_tbl, w.before #[Value.ref b] s = true) ∧ va_X b L xs s s.heap ∧ b < s.heap.size ∧ meth.locks = false ∧ (Jvm.Cond.and given_1 narrow_1).before #[Value.ref b] s = true ∧
  meth.name = "law" ∧ c.exceptionTable.toList = [] ∧ (Cond.code x code maxLocals ret).before #[Value.ref b] s = true
section MMT
variable {s : State} {b : Nat}
theorem mm_D (hts : ∀ w ∈ lw_tbl, w.before #[Value.ref b] s = true) : ∃ D : va_G, ∀ (ci : Nat) (r : vw_C), mm_cl[ci]? = some r → u_Kn s r.1 r.2.1 r.2.2 (D.1 ci) (D.2 ci) := by
  have key : ∀ ci : Nat, ∃ q : ClassId × (Nat → Nat), ∀ r : vw_C, mm_cl[ci]? = some r → u_Kn s r.1 r.2.1 r.2.2 q.1 q.2 := by
    intro ci
    have one : ∀ (C : String) (T : u_T) (N n : Nat), (∀ w ∈ u_ws C T N, w ∈ lw_tbl) → (Cond.instantiable C n).before #[Value.ref b] s = true → ∃ q : ClassId × (Nat → Nat), u_Kn s C T N q.1 q.2 := by
      intro C T N n h1 h2
      obtain ⟨cC, iS, h⟩ := u_known hts h1 h2
      exact ⟨(cC, iS), h⟩
    have fin : ∀ (C : String) (T : u_T) (N : Nat), mm_cl[ci]? = some (C, T, N) → (∃ q : ClassId × (Nat → Nat), u_Kn s C T N q.1 q.2) → ∃ q : ClassId × (Nat → Nat), ∀ r : vw_C, mm_cl[ci]? = some r → u_Kn s r.1 r.2.1 r.2.2 q.1 q.2 := by
      intro C T N h1 ⟨q, h2⟩
      refine ⟨q, fun r hr => ?_⟩
      cases h1.symm.trans hr
      exact h2
    rcases ci with _ | ci
    · exact fin "java/lang/IllegalStateException" (mj_fn mf_0) 0 rfl (one _ _ _ 6 (fun w hw => absurd hw List.not_mem_nil) (sg_3 hts _ (List.mem_of_getElem? (i := 0) (by decide +kernel))))
    rcases ci with _ | ci
    · exact fin "java/util/NoSuchElementException" (mj_fn mf_1) 0 rfl (one _ _ _ 6 (fun w hw => absurd hw List.not_mem_nil) (sg_3 hts _ (List.mem_of_getElem? (i := 68) (by decide +kernel))))
    rcases ci with _ | ci
    · exact fin "java/lang/UnsupportedOperationException" (mj_fn mf_2) 0 rfl (one _ _ _ 6 (fun w hw => absurd hw List.not_mem_nil) (sg_3 hts _ (List.mem_of_getElem? (i := 145) (by decide +kernel))))
    rcases ci with _ | ci
    · exact fin "java/lang/IllegalArgumentException" (mj_fn mf_3) 0 rfl (one _ _ _ 6 (fun w hw => absurd hw List.not_mem_nil) (sg_3 hts _ (List.mem_of_getElem? (i := 205) (by decide +kernel))))
    rcases ci with _ | ci
    · exact fin "InodeDisk" (mj_fn mf_4) 10 rfl (one _ _ _ 10 (fun w hw => of_decide_eq_true (List.all_eq_true.mp (show (u_ws "InodeDisk" (mj_fn mf_4) 10).all (fun w => decide (w ∈ lw_tbl)) = true by decide +kernel) w hw)) (sg_1 hts _ (List.mem_of_getElem? (i := 19) (by decide +kernel))))
    rcases ci with _ | ci
    · exact fin "InodeDisk$Bytes" (mj_fn mf_5) 1 rfl (one _ _ _ 1 (fun w hw => of_decide_eq_true (List.all_eq_true.mp (show (u_ws "InodeDisk$Bytes" (mj_fn mf_5) 1).all (fun w => decide (w ∈ lw_tbl)) = true by decide +kernel) w hw)) (sg_1 hts _ (List.mem_of_getElem? (i := 27) (by decide +kernel))))
    rcases ci with _ | ci
    · exact fin "InodeDisk$TakenMap" (mj_fn mf_6) 4 rfl (one _ _ _ 4 (fun w hw => of_decide_eq_true (List.all_eq_true.mp (show (u_ws "InodeDisk$TakenMap" (mj_fn mf_6) 4).all (fun w => decide (w ∈ lw_tbl)) = true by decide +kernel) w hw)) (sg_1 hts _ (List.mem_of_getElem? (i := 38) (by decide +kernel))))
    rcases ci with _ | ci
    · exact fin "InodeDisk$Inodes" (mj_fn mf_7) 3 rfl (one _ _ _ 3 (fun w hw => of_decide_eq_true (List.all_eq_true.mp (show (u_ws "InodeDisk$Inodes" (mj_fn mf_7) 3).all (fun w => decide (w ∈ lw_tbl)) = true by decide +kernel) w hw)) (sg_1 hts _ (List.mem_of_getElem? (i := 57) (by decide +kernel))))
    rcases ci with _ | ci
    · exact fin "InodeDisk$Directories" (mj_fn mf_8) 2 rfl (one _ _ _ 2 (fun w hw => of_decide_eq_true (List.all_eq_true.mp (show (u_ws "InodeDisk$Directories" (mj_fn mf_8) 2).all (fun w => decide (w ∈ lw_tbl)) = true by decide +kernel) w hw)) (sg_1 hts _ (List.mem_of_getElem? (i := 73) (by decide +kernel))))
    rcases ci with _ | ci
    · exact fin "InodeDisk$Survey" (mj_fn mf_9) 7 rfl (one _ _ _ 7 (fun w hw => of_decide_eq_true (List.all_eq_true.mp (show (u_ws "InodeDisk$Survey" (mj_fn mf_9) 7).all (fun w => decide (w ∈ lw_tbl)) = true by decide +kernel) w hw)) (sg_1 hts _ (List.mem_of_getElem? (i := 86) (by decide +kernel))))
    rcases ci with _ | ci
    · exact fin "InodeDisk$Path" (mj_fn mf_10) 2 rfl (one _ _ _ 2 (fun w hw => of_decide_eq_true (List.all_eq_true.mp (show (u_ws "InodeDisk$Path" (mj_fn mf_10) 2).all (fun w => decide (w ∈ lw_tbl)) = true by decide +kernel) w hw)) (sg_1 hts _ (List.mem_of_getElem? (i := 116) (by decide +kernel))))
    rcases ci with _ | ci
    · exact fin "InodeDisk$Place" (mj_fn mf_11) 4 rfl (one _ _ _ 4 (fun w hw => of_decide_eq_true (List.all_eq_true.mp (show (u_ws "InodeDisk$Place" (mj_fn mf_11) 4).all (fun w => decide (w ∈ lw_tbl)) = true by decide +kernel) w hw)) (sg_1 hts _ (List.mem_of_getElem? (i := 130) (by decide +kernel))))
    rcases ci with _ | ci
    · exact fin "InodeDiskModel" (mj_fn mf_12) 12 rfl (one _ _ _ 12 (fun w hw => of_decide_eq_true (List.all_eq_true.mp (show (u_ws "InodeDiskModel" (mj_fn mf_12) 12).all (fun w => decide (w ∈ lw_tbl)) = true by decide +kernel) w hw)) (sg_4 hts _ (List.mem_of_getElem? (i := 58) (by decide +kernel))))
    exact ⟨(0, fun _ => 0), fun r hr => by simp [mm_cl] at hr⟩
  exact ⟨(fun ci => (Classical.choose (key ci)).1, fun ci => (Classical.choose (key ci)).2), fun ci r hr => Classical.choose_spec (key ci) r hr⟩
/-- where the small heap's numbers lie -/
def mm_al (b t0 t1 sz : Nat) (g : Nat → Nat) (k : Nat) : Nat := if k = 0 then t0 else if k = 1 then t1 else if k = 2 then b else if k < 100000 then sz + (k - 3) else g (k - 100000)
set_option maxHeartbeats 4000000 in
theorem mm_ctx_of (hts : ∀ w ∈ lw_tbl, w.before #[Value.ref b] s = true) (hgv : (Jvm.Cond.and given_1 narrow_1).before #[Value.ref b] s = true) (hb : b < s.heap.size) :
    ∃ (D : va_G) (al : Nat → Nat), mm_ctx s #[Value.ref b] D al ∧ mj_A al s.heap.size ∧ al 2 = b ∧ (∀ cx, cx < 4 → mj_exs D s cx) ∧ (∀ (L : Nat) (xs : Nat → Int32), va_X b L xs s s.heap → mj_R s D mm_cl al 1074 (mm_h0 L xs) s.heap) := by
  obtain ⟨D, hD⟩ := mm_D hts
  have hs := flat_of_before _ hgv
  have hde : ∀ w ∈ mm_sw.take 3, w.before #[Value.ref b] s = true := by
    simp only [mm_sw, List.take_succ_cons, List.take_zero, List.forall_mem_cons]
    exact ⟨sg_3 hts _ (List.mem_of_getElem? (i := 3) (by decide +kernel)), sg_3 hts _ (List.mem_of_getElem? (i := 5) (by decide +kernel)), sg_3 hts _ (List.mem_of_getElem? (i := 7) (by decide +kernel)), fun _ h => absurd h List.not_mem_nil⟩
  obtain ⟨t_ITSELF, hITSELF, ZITSELF, TITSELF⟩ := mm_bytes (s := s) (args := #[Value.ref b]) (nm := "ITSELF") (f := mm_f0) (hs _ (by decide +kernel)) (hs _ (by decide +kernel)) (fun j hj => by
      rcases j with _ | _ | _ | _ | _ | _ | _ | j
      all_goals first | exact hs _ (by decide +kernel) | omega) (sg_1 hts _ (List.mem_of_getElem? (i := 223) (by decide +kernel))) (sg_1 hts _ (List.mem_of_getElem? (i := 1) (by decide +kernel)))
  obtain ⟨t_ABOVE, hABOVE, ZABOVE, TABOVE⟩ := mm_bytes (s := s) (args := #[Value.ref b]) (nm := "ABOVE") (f := mm_f1) (hs _ (by decide +kernel)) (hs _ (by decide +kernel)) (fun j hj => by
      rcases j with _ | _ | _ | _ | _ | _ | _ | j
      all_goals first | exact hs _ (by decide +kernel) | omega) (sg_2 hts _ (List.mem_of_getElem? (i := 8) (by decide +kernel))) (sg_1 hts _ (List.mem_of_getElem? (i := 1) (by decide +kernel)))
  have hstr : ∀ n : Nat, ∃ a : Nat, ∀ q ∈ mm_strs, q.2 = n → ∀ (U : State) (args : Array Value), s.WarmedH U.vm → ∃ text, (Cond.stringRef "InodeDisk" q.1 text).before args U = true ∧ (Term.string "InodeDisk" q.1).eval args U none [] U = some (.ref a) := by
    have hown : s.vm.findClass "InodeDisk" = some (D.1 4) := (hD 4 _ rfl).2.1
    have one : ∀ (i : Nat) (text : String), (Cond.stringRef "InodeDisk" i text).before #[Value.ref b] s = true → ∃ a : Nat, ∀ (U : State) (args : Array Value), s.WarmedH U.vm → ∃ text, (Cond.stringRef "InodeDisk" i text).before args U = true ∧ (Term.string "InodeDisk" i).eval args U none [] U = some (.ref a) := by
      intro i text hw
      obtain ⟨k, cf, i', a, hk, hcf, hcp, -, hr, -⟩ := Cond.stringRef_spec hown hw
      exact ⟨a, fun U args hW => mm_str hown hw hk hr hW args⟩
    intro n
    by_cases hn : ∃ q ∈ mm_strs, q.2 = n
    · obtain ⟨q, hq, rfl⟩ := hn
      have hall : ∀ q ∈ mm_strs, ∃ a : Nat, ∀ (U : State) (args : Array Value), s.WarmedH U.vm → ∃ text, (Cond.stringRef "InodeDisk" q.1 text).before args U = true ∧ (Term.string "InodeDisk" q.1).eval args U none [] U = some (.ref a) := by
        simp only [mm_strs, List.forall_mem_cons]
        refine ⟨one 149 "the file has 255 links" (sg_3 hts _ (List.mem_of_getElem? (i := 161) (by decide +kernel))), one 171 "a file, or the root" (sg_3 hts _ (List.mem_of_getElem? (i := 199) (by decide +kernel))), one 180 "the directory isn't empty" (sg_3 hts _ (List.mem_of_getElem? (i := 213) (by decide +kernel))), one 189 "the root has no name" (sg_3 hts _ (List.mem_of_getElem? (i := 233) (by decide +kernel))), one 195 "a directory can't lie in itself" (sg_3 hts _ (List.mem_of_getElem? (i := 238) (by decide +kernel))), one 200 "no such bytes in a file" (sg_4 hts _ (List.mem_of_getElem? (i := 10) (by decide +kernel))), one 209 "too few blocks are left" (sg_4 hts _ (List.mem_of_getElem? (i := 12) (by decide +kernel))), one 230 "offset below 0" (sg_4 hts _ (List.mem_of_getElem? (i := 30) (by decide +kernel))), one 238 "no such size of a file" (sg_4 hts _ (List.mem_of_getElem? (i := 43) (by decide +kernel))), one 246 "nothing to tell" (sg_4 hts _ (List.mem_of_getElem? (i := 56) (by decide +kernel))), one 276 "the disk isn't clean" (sg_3 hts _ (List.mem_of_getElem? (i := 41) (by decide +kernel))), one 283 "no new name" (sg_3 hts _ (List.mem_of_getElem? (i := 76) (by decide +kernel))), one 286 "no inode is left" (sg_3 hts _ (List.mem_of_getElem? (i := 87) (by decide +kernel))), one 291 "the name is there" (sg_3 hts _ (List.mem_of_getElem? (i := 92) (by decide +kernel))), one 296 "no room for a slot" (sg_3 hts _ (List.mem_of_getElem? (i := 111) (by decide +kernel))), one 298 "the path leads to nothing" (sg_3 hts _ (List.mem_of_getElem? (i := 143) (by decide +kernel))), one 300 "a directory" (sg_3 hts _ (List.mem_of_getElem? (i := 153) (by decide +kernel))), fun _ h => absurd h List.not_mem_nil⟩
      obtain ⟨a, ha⟩ := hall q hq
      refine ⟨a, fun q' hq' he U args hW => ?_⟩
      have hinj : ∀ q ∈ mm_strs, ∀ q' ∈ mm_strs, q'.2 = q.2 → q' = q := by decide +kernel
      rw [hinj q hq q' hq' he]
      exact ha U args hW
    · exact ⟨0, fun q hq he => absurd ⟨q, hq, he⟩ hn⟩
  refine ⟨D, mm_al b t_ITSELF t_ABOVE s.heap.size (fun n => Classical.choose (hstr n)), ⟨hts, hD, ?_, ?_, ?_⟩, ⟨?_, trivial, ?_⟩, rfl, ?_, ?_⟩
  · intro q hq U args hW
    have e : mm_al b t_ITSELF t_ABOVE s.heap.size (fun n => Classical.choose (hstr n)) (100000 + q.2) = Classical.choose (hstr q.2) := by
      unfold mm_al
      rw [if_neg (by omega), if_neg (by omega), if_neg (by omega), if_neg (by omega), show 100000 + q.2 - 100000 = q.2 by omega]
    rw [e]
    exact Classical.choose_spec (hstr q.2) q hq rfl U args hW
  · intro q hq U args hW
    simp only [mm_stas, List.mem_cons, List.not_mem_nil, or_false] at hq
    rcases hq with rfl | rfl
    · exact ⟨"InodeDisk", "ITSELF", "[B", "InodeDisk", va_Z.moved hW.alike ZITSELF, ⟨"InodeDisk", va_Nw.use rfl (va_Nw.warmF hW (va_Nw.of rfl (sg_1 hts _ (List.mem_of_getElem? (i := 222) (by decide +kernel)))))⟩, fun x hx => hx⟩
    · exact ⟨"InodeDisk", "ABOVE", "[B", "InodeDisk", va_Z.moved hW.alike ZABOVE, ⟨"InodeDisk", va_Nw.use rfl (va_Nw.warmF hW (va_Nw.of rfl (sg_2 hts _ (List.mem_of_getElem? (i := 7) (by decide +kernel)))))⟩, fun x hx => hx⟩
  · intro q hq U args hW hO
    simp only [mm_excs, List.mem_cons, List.not_mem_nil, or_false] at hq
    rcases hq with rfl | rfl | rfl | rfl
    · exact mm_exf hts (cls := "java/util/NoSuchElementException") (idx := 13) (bytes := ⟨#[0x2a, 0x2b, 0xb7, 0x00, 13, 0xb1]⟩) (by decide +kernel) (by decide +kernel) (by decide +kernel) (by decide +kernel) (by decide +kernel) (by decide +kernel) hde (sg_3 hts _ (List.mem_of_getElem? (i := 26) (by decide +kernel))) (sg_3 hts _ (List.mem_of_getElem? (i := 28) (by decide +kernel))) (hs _ (by decide +kernel)) (hs _ (by decide +kernel)) (hD 1 _ rfl).2.1 ⟨_, rfl, rfl⟩ rfl rfl hW hO args
    · exact mm_exf hts (cls := "java/lang/IllegalStateException") (idx := 7) (bytes := ⟨#[0x2a, 0x2b, 0xb7, 0x00, 7, 0xb1]⟩) (by decide +kernel) (by decide +kernel) (by decide +kernel) (by decide +kernel) (by decide +kernel) (by decide +kernel) hde (sg_3 hts _ (List.mem_of_getElem? (i := 26) (by decide +kernel))) (sg_3 hts _ (List.mem_of_getElem? (i := 28) (by decide +kernel))) (hs _ (by decide +kernel)) (hs _ (by decide +kernel)) (hD 0 _ rfl).2.1 ⟨_, rfl, rfl⟩ rfl rfl hW hO args
    · exact mm_exf hts (cls := "java/lang/UnsupportedOperationException") (idx := 7) (bytes := ⟨#[0x2a, 0x2b, 0xb7, 0x00, 7, 0xb1]⟩) (by decide +kernel) (by decide +kernel) (by decide +kernel) (by decide +kernel) (by decide +kernel) (by decide +kernel) hde (sg_3 hts _ (List.mem_of_getElem? (i := 26) (by decide +kernel))) (sg_3 hts _ (List.mem_of_getElem? (i := 28) (by decide +kernel))) (hs _ (by decide +kernel)) (hs _ (by decide +kernel)) (hD 2 _ rfl).2.1 ⟨_, rfl, rfl⟩ rfl rfl hW hO args
    · exact mm_exf hts (cls := "java/lang/IllegalArgumentException") (idx := 7) (bytes := ⟨#[0x2a, 0x2b, 0xb7, 0x00, 7, 0xb1]⟩) (by decide +kernel) (by decide +kernel) (by decide +kernel) (by decide +kernel) (by decide +kernel) (by decide +kernel) hde (sg_3 hts _ (List.mem_of_getElem? (i := 26) (by decide +kernel))) (sg_3 hts _ (List.mem_of_getElem? (i := 28) (by decide +kernel))) (hs _ (by decide +kernel)) (hs _ (by decide +kernel)) (hD 3 _ rfl).2.1 ⟨_, rfl, rfl⟩ rfl rfl hW hO args
  · intro k hk
    unfold mm_al
    have : k = 0 ∨ k = 1 ∨ k = 2 := by omega
    rcases this with rfl | rfl | rfl
    · exact hITSELF
    · exact hABOVE
    · exact hb
  · intro k h3 hk
    unfold mm_al
    rw [if_neg (by omega), if_neg (by omega), if_neg (by omega), if_pos hk]
    omega
  · intro cx hcx
    have hf : ∀ cx, cx < 4 → ∃ kx, s.vm.classes[D.1 cx]? = some kx := by
      intro cx h
      have : cx = 0 ∨ cx = 1 ∨ cx = 2 ∨ cx = 3 := by omega
      rcases this with rfl | rfl | rfl | rfl
      · exact Vm.classAt_of_findClass (hD 0 _ rfl).2.1
      · exact Vm.classAt_of_findClass (hD 1 _ rfl).2.1
      · exact Vm.classAt_of_findClass (hD 2 _ rfl).2.1
      · exact Vm.classAt_of_findClass (hD 3 _ rfl).2.1
    refine ⟨hf cx hcx, fun cc hcc => ?_⟩
    have h1 : cx = 0 ∨ cx = 1 ∨ cx = 2 ∨ cx = 3 := by omega
    have h2 : cc = 0 ∨ cc = 1 ∨ cc = 2 ∨ cc = 3 := by omega
    rcases h1 with rfl | rfl | rfl | rfl <;> rcases h2 with rfl | rfl | rfl | rfl
    · exact mm_cast (args := #[Value.ref b]) (sg_3 hts _ (List.mem_of_getElem? (i := 1) (by decide +kernel))) (hD 0 _ rfl).2.1
    · exact mm_noncast (args := #[Value.ref b]) (A := "java/lang/IllegalStateException") (B := "java/util/NoSuchElementException") (hs _ (by decide +kernel)) (hD 0 _ rfl).2.1 (hD 1 _ rfl).2.1
    · exact mm_noncast (args := #[Value.ref b]) (A := "java/lang/IllegalStateException") (B := "java/lang/UnsupportedOperationException") (hs _ (by decide +kernel)) (hD 0 _ rfl).2.1 (hD 2 _ rfl).2.1
    · exact mm_noncast (args := #[Value.ref b]) (A := "java/lang/IllegalStateException") (B := "java/lang/IllegalArgumentException") (hs _ (by decide +kernel)) (hD 0 _ rfl).2.1 (hD 3 _ rfl).2.1
    · exact mm_noncast (args := #[Value.ref b]) (A := "java/util/NoSuchElementException") (B := "java/lang/IllegalStateException") (hs _ (by decide +kernel)) (hD 1 _ rfl).2.1 (hD 0 _ rfl).2.1
    · exact mm_cast (args := #[Value.ref b]) (sg_3 hts _ (List.mem_of_getElem? (i := 69) (by decide +kernel))) (hD 1 _ rfl).2.1
    · exact mm_noncast (args := #[Value.ref b]) (A := "java/util/NoSuchElementException") (B := "java/lang/UnsupportedOperationException") (hs _ (by decide +kernel)) (hD 1 _ rfl).2.1 (hD 2 _ rfl).2.1
    · exact mm_noncast (args := #[Value.ref b]) (A := "java/util/NoSuchElementException") (B := "java/lang/IllegalArgumentException") (hs _ (by decide +kernel)) (hD 1 _ rfl).2.1 (hD 3 _ rfl).2.1
    · exact mm_noncast (args := #[Value.ref b]) (A := "java/lang/UnsupportedOperationException") (B := "java/lang/IllegalStateException") (hs _ (by decide +kernel)) (hD 2 _ rfl).2.1 (hD 0 _ rfl).2.1
    · exact mm_noncast (args := #[Value.ref b]) (A := "java/lang/UnsupportedOperationException") (B := "java/util/NoSuchElementException") (hs _ (by decide +kernel)) (hD 2 _ rfl).2.1 (hD 1 _ rfl).2.1
    · exact mm_cast (args := #[Value.ref b]) (sg_3 hts _ (List.mem_of_getElem? (i := 146) (by decide +kernel))) (hD 2 _ rfl).2.1
    · exact mm_noncast (args := #[Value.ref b]) (A := "java/lang/UnsupportedOperationException") (B := "java/lang/IllegalArgumentException") (hs _ (by decide +kernel)) (hD 2 _ rfl).2.1 (hD 3 _ rfl).2.1
    · exact mm_noncast (args := #[Value.ref b]) (A := "java/lang/IllegalArgumentException") (B := "java/lang/IllegalStateException") (hs _ (by decide +kernel)) (hD 3 _ rfl).2.1 (hD 0 _ rfl).2.1
    · exact mm_noncast (args := #[Value.ref b]) (A := "java/lang/IllegalArgumentException") (B := "java/util/NoSuchElementException") (hs _ (by decide +kernel)) (hD 3 _ rfl).2.1 (hD 1 _ rfl).2.1
    · exact mm_noncast (args := #[Value.ref b]) (A := "java/lang/IllegalArgumentException") (B := "java/lang/UnsupportedOperationException") (hs _ (by decide +kernel)) (hD 3 _ rfl).2.1 (hD 2 _ rfl).2.1
    · exact mm_cast (args := #[Value.ref b]) (sg_3 hts _ (List.mem_of_getElem? (i := 206) (by decide +kernel))) (hD 3 _ rfl).2.1
  · intro L xs hX
    refine ⟨by show 3 ≤ 3; decide, by show 3 ≤ 1074; decide, rfl, fun q hq => rfl, fun k e hk => ?_⟩
    rcases k with _ | _ | _ | k
    · cases hk
      obtain ⟨cell, h1, h2, h3, h4, h5, h6, h7⟩ := TITSELF
      exact ⟨cell, h1, h2, h3, h4, h5, h6⟩
    · cases hk
      obtain ⟨cell, h1, h2, h3, h4, h5, h6, h7⟩ := TABOVE
      exact ⟨cell, h1, h2, h3, h4, h5, h6⟩
    · cases hk
      obtain ⟨cell, h1, h2, h3, h4, h5⟩ := hX
      exact ⟨cell, h1, h2, h3, by show L ≤ _; omega, by show _ = Int32.ofNat L; rw [h4] <;> rfl, h5⟩
    · cases hk
/-- from the entry: if the small machine's law answers 1 on a script, the law comes to its end with true -/
theorem mm_start {p : Program} {e : Env} {m : MethodId} {below : List Frame} {meth : Method} {c : Code} {l : Launch} {L : Nat} {xs : Nat → Int32} (hfl : l.flags = flags0) (C0 : lw_At p s m meth c b L xs)
    (hres : ∃ (n : Nat) (h' : mj_H), mj_ev mm_P 1074 (12984 + (14 + L)) n 13 488 166 [.ref 2] (mm_h0 L xs) = some (.inl (some (.int 1)), h')) : W p l e room_1 s m #[Value.ref b] below meth c s.heap [] 0 0 (lw_Z below #[Value.ref b] s) (entryFrame m ([Value.ref b] : List Value).toArray 8) := by
  obtain ⟨hx, hcode, hret, hml, hown, hts, hX, hbl, hlk, hgv, hname, htab, hcw⟩ := C0
  obtain ⟨n, h', hev⟩ := hres
  obtain ⟨D, al, hctx, hA, ha2, hexs, hR0⟩ := mm_ctx_of hts hgv hbl
  have hlaw : ∀ U : State, s.WarmedH U.vm → mj_meth mm_P 166 U := fun U hW => mw_meth2 me_166 (fun s' args' hW' => word_at hW' (Or.inl rfl) hcw) rfl (by decide +kernel) (by decide +kernel) hW
  have hok : mj_ok mm_P l s D mm_cl al := ⟨fun c => by show (mm_size[(c + 50) % 50]?).getD 0 = (mm_size[c % 50]?).getD 0; rw [Nat.add_mod_right], fun e he => mm_htr hfl e he, hA, fun k pc row h => mm_rows_ok hctx k pc row h, fun k U hW => mm_meth_ok hctx hW (hlaw U hW) k, fun k s' args' hW => mm_hok_ok hctx k s' args' hW, fun cx s' hcx hW => by
    obtain ⟨⟨kx, hkx⟩, h2⟩ := hexs cx hcx
    obtain ⟨k', hk', -⟩ := hW.alike.2.2 _ _ hkx
    exact ⟨⟨k', hk'⟩, fun cc hcc => by rw [hW.alike.assignable]; exact h2 cc hcc⟩⟩
  have hsl : mj_sl mm_P (mm_h0 L xs) = 14 + L := by
    show 7 + (7 + (L + 0)) = 14 + L
    omega
  have hfr : mj_Fr mm_P s 1074 (12984 + (14 + L)) (mm_h0 L xs).length (mj_sl mm_P (mm_h0 L xs)) 166 13 488 p l e room_1 s m meth c := by
    refine ⟨hx, hcode, hown, hname, hret, hlk, hml, htab, State.WarmedH.refl s, fun q hq => rfl, Nat.le_refl _, rfl, rfl, rfl, ?_⟩
    rw [hsl]
    rfl
  have hw := mj_ev_sound (p := p) (e := e) hok (by decide) n 13 488 166 [.ref 2] (mm_h0 L xs) _ h' hev (by rw [hsl]; omega) room_1 s m below meth c hfr
  have hle := mj_ev_le hok.1 n 13 488 166 [.ref 2] (mm_h0 L xs) _ h' hev
  rw [hsl] at hle
  have hent := lv_entry [Value.ref b] (n := 8) (by show 1 ≤ 8; decide)
  have e1 : entryFrame m ([Value.ref b] : List Value).toArray 8 = F0 m 0 ((lg_sl [Value.ref b] ++ List.replicate (8 - (lg_sl [Value.ref b]).length) Slot.unset).toArray) [] := lg_entry_eq m [Value.ref b] 8
  rw [e1]
  have hargs : ((([.ref 2] : List Value).map (mj_lf al)).toArray) = #[Value.ref b] := by
    show #[Value.ref (al 2)] = _
    rw [ha2]
  rw [hargs] at hw
  have hll : lv_has ((lg_sl [Value.ref b] ++ List.replicate (8 - (lg_sl [Value.ref b]).length) Slot.unset).toArray) (mj_ml mm_P 166) (mj_ll al (lv_args 0 [.ref 2])) := by
    have : mj_ll al (lv_args 0 [.ref 2]) = lv_args 0 [Value.ref b] := by
      show [(0, Value.ref (al 2))] = [(0, Value.ref b)]
      rw [ha2]
    rw [this]
    exact hent
  refine mj_mono (hw s.heap [] 0 0 _ (hR0 L xs hX) (fun q hq => by cases hq) (by simp) (by simp) hll) fun t ht => ?_
  obtain ⟨h1, h2, h3, h4, L', h5, h6⟩ := ht
  refine ⟨_, h1, h2, rfl, ⟨_, rfl⟩, h4, h5.weaken (fun y hy hlt => ?_) ?_ ?_⟩
  · exact absurd hlt (Nat.not_lt.mpr (h6 y hy))
  · have h7 : h'.length ≤ 1074 := h3.2.1
    show h'.length - 3 ≤ 1071
    omega
  · rw [hsl]
    have h7 := hle.2.2 (by omega)
    have h8 := hle.2.1
    show mj_sl mm_P h' - (14 + L) ≤ 12984
    omega
end MMT
