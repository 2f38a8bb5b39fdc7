section MJZ
variable {P : mj_P} {cm sm fr lo pc : Nat} {lv : mj_L} {st : List Value} {h h1 : mj_H}
set_option maxHeartbeats 4000000 in
theorem mj_sim_le (hP : ∀ c, P.2.2.2 (c + 50) = P.2.2.2 c) {row : mj_I} {F : mj_F} (hs : mj_sim P fr lo cm sm row pc lv st h = some (F, h1)) : h.length ≤ h1.length ∧ mj_sl P h ≤ mj_sl P h1 ∧ (mj_sl P h ≤ sm → mj_sl P h1 ≤ sm) := by
  obtain ⟨ins, len, ax⟩ := row
  have hset : ∀ (a : Nat) (e0 e : mj_C), h[a]? = some e0 → mj_cs P e = mj_cs P e0 → h.length ≤ (h.set a e).length ∧ mj_sl P h ≤ mj_sl P (h.set a e) ∧ (mj_sl P h ≤ sm → mj_sl P (h.set a e) ≤ sm) := by
    intro a e0 e ha he
    rw [mj_sl_set P he ha]
    exact ⟨by simp, Nat.le_refl _, fun z => z⟩
  have hpush : ∀ e : mj_C, mj_sl P h + mj_cs P e ≤ sm → h.length ≤ (h ++ [e]).length ∧ mj_sl P h ≤ mj_sl P (h ++ [e]) ∧ (mj_sl P h ≤ sm → mj_sl P (h ++ [e]) ≤ sm) := by
    intro e he
    rw [mj_sl_push]
    exact ⟨by simp, by omega, fun _ => he⟩
  have hpi : ∀ {q : Nat} {x y : vp_A} {j : Nat} {v : Int32}, mj_pi q x j v = some y → y.1 = x.1 := by
    intro q x y j v hy
    unfold mj_pi at hy
    split at hy
    · cases hy; rfl
    · cases hy
  have hpl : ∀ {x y : vp_A} {j : Nat} {v : Int64}, mj_pl x j v = some y → y.1 = x.1 := by
    intro x y j v hy
    unfold mj_pl at hy
    split at hy
    · cases hy; rfl
    · cases hy
  cases ins
  all_goals (unfold mj_sim at hs; dsimp only at hs)
  case putfield i =>
    split at hs
    next ci j t v a r =>
      split at hs
      next cc fs ha =>
        split at hs
        next => cases hs; exact hset a _ _ ha rfl
        next => cases hs; exact hset a _ _ ha rfl
        next => cases hs
      next => cases hs
    next => cases hs
  case iastore =>
    split at hs
    next v i a r =>
      split at hs
      next =>
        simp only [Option.bind_eq_some_iff, Option.map_eq_some_iff] at hs
        obtain ⟨⟨q, x⟩, ha, j, hj, y, hy, hs⟩ := hs
        cases hs
        exact hset a _ _ (mj_ar_at ha).1 (hpi hy)
      next => cases hs
    next => cases hs
  case bastore =>
    split at hs
    next v i a r =>
      split at hs
      next =>
        simp only [Option.bind_eq_some_iff, Option.map_eq_some_iff] at hs
        obtain ⟨⟨q, x⟩, ha, j, hj, y, hy, hs⟩ := hs
        cases hs
        exact hset a _ _ (mj_ar_at ha).1 (hpi hy)
      next => cases hs
    next => cases hs
  case castore =>
    split at hs
    next v i a r =>
      split at hs
      next =>
        simp only [Option.bind_eq_some_iff, Option.map_eq_some_iff] at hs
        obtain ⟨⟨q, x⟩, ha, j, hj, y, hy, hs⟩ := hs
        cases hs
        exact hset a _ _ (mj_ar_at ha).1 (hpi hy)
      next => cases hs
    next => cases hs
  case lastore =>
    split at hs
    next v i a r =>
      split at hs
      next =>
        simp only [Option.bind_eq_some_iff, Option.map_eq_some_iff] at hs
        obtain ⟨⟨q, x⟩, ha, j, hj, y, hy, hs⟩ := hs
        cases hs
        exact hset a _ _ (mj_ar_at ha).1 (hpl hy)
      next => cases hs
    next => cases hs
  case new i =>
    split at hs
    next ci =>
      split at hs
      next hb => cases hs; exact hpush _ (Nat.le_of_ble_eq_true (Bool.and_eq_true_iff.mp hb).2)
      next => cases hs
    next => cases hs
  case newarray t =>
    split at hs
    next n r q hq =>
      split at hs
      next => cases hs
      next =>
        split at hs
        next hb =>
          cases hs
          refine hpush _ ?_
          have hq : (mj_new q n.toNatClampNeg).1 = n.toNatClampNeg := by
            unfold mj_new
            split <;> rfl
          simp only [mj_cs, hq]
          exact Nat.le_of_ble_eq_true (Bool.and_eq_true_iff.mp hb).2
        next => cases hs
    next => cases hs
  case invokespecial i =>
    split at hs
    next a r =>
      split at hs
      next => cases hs; exact ⟨Nat.le_refl _, Nat.le_refl _, fun z => z⟩
      next => cases hs
    next cx q a r =>
      split at hs
      next cc fs hb ha =>
        split at hs
        next hcc =>
          cases hs
          have hcc : cc = cx + 50 := Nat.eq_of_beq_eq_true hcc
          subst hcc
          exact hset a _ _ ha (hP cx).symm
        next => cases hs
      next => cases hs
    next => cases hs
  all_goals (repeat' split at hs)
  all_goals first
    | (cases hs; done)
    | (cases hs; exact ⟨Nat.le_refl _, Nat.le_refl _, fun z => z⟩)
    | (simp only [Option.map_eq_some_iff] at hs; obtain ⟨_, _, hs⟩ := hs; cases hs; exact ⟨Nat.le_refl _, Nat.le_refl _, fun z => z⟩)
    | (simp only [Option.bind_eq_some_iff, Option.map_eq_some_iff] at hs; obtain ⟨_, _, _, _, _, _, hs⟩ := hs; cases hs; exact ⟨Nat.le_refl _, Nat.le_refl _, fun z => z⟩)
theorem mj_run_le (hP : ∀ c, P.2.2.2 (c + 50) = P.2.2.2 c) {call : Nat → Nat → List Value → mj_H → Option (mj_O × mj_H)} (hcall : ∀ a b c h o h', call a b c h = some (o, h') → h.length ≤ h'.length ∧ mj_sl P h ≤ mj_sl P h' ∧ (mj_sl P h ≤ sm → mj_sl P h' ≤ sm)) {k fr lo : Nat} :
    ∀ (n : Nat) (F : mj_F) (h : mj_H) (o : mj_O) (h' : mj_H), mj_run P cm sm call k fr lo n F h = some (o, h') → h.length ≤ h'.length ∧ mj_sl P h ≤ mj_sl P h' ∧ (mj_sl P h ≤ sm → mj_sl P h' ≤ sm)
  | 0, _, _, _, _, hs => by cases hs
  | n + 1, (pc, lv, st), h, o, h', hs => by
    unfold mj_run at hs
    split at hs
    next => cases hs
    next row hrow =>
      split at hs
      next F h2 hsim =>
        obtain ⟨a1, a2, a3⟩ := mj_sim_le hP hsim
        obtain ⟨b1, b2, b3⟩ := mj_run_le hP hcall n F h2 o h' hs
        exact ⟨Nat.le_trans a1 b1, Nat.le_trans a2 b2, fun z => b3 (a3 z)⟩
      next =>
        split at hs
        next v hv => cases hs; exact ⟨Nat.le_refl _, Nat.le_refl _, fun z => z⟩
        next =>
          split at hs
          next k' as r hinv =>
            split at hs
            next =>
              split at hs
              next => cases hs
              next v h2 hc =>
                obtain ⟨a1, a2, a3⟩ := hcall _ _ _ _ _ _ hc
                obtain ⟨b1, b2, b3⟩ := mj_run_le hP hcall n _ h2 o h' hs
                exact ⟨Nat.le_trans a1 b1, Nat.le_trans a2 b2, fun z => b3 (a3 z)⟩
              next x h2 hc =>
                obtain ⟨a1, a2, a3⟩ := hcall _ _ _ _ _ _ hc
                split at hs
                next cx fs hx =>
                  split at hs
                  next => cases hs; exact ⟨a1, a2, a3⟩
                  next hp hf =>
                    obtain ⟨b1, b2, b3⟩ := mj_run_le hP hcall n _ h2 o h' hs
                    exact ⟨Nat.le_trans a1 b1, Nat.le_trans a2 b2, fun z => b3 (a3 z)⟩
                  next => cases hs
                next => cases hs
            next => cases hs
          next =>
            split at hs
            next => cases hs; exact ⟨Nat.le_refl _, Nat.le_refl _, fun z => z⟩
            next => cases hs
theorem mj_ev_le (hP : ∀ c, P.2.2.2 (c + 50) = P.2.2.2 c) (n : Nat) : ∀ (fr lo k : Nat) (as : List Value) (h : mj_H) (o : mj_O) (h' : mj_H), mj_ev P cm sm n fr lo k as h = some (o, h') → h.length ≤ h'.length ∧ mj_sl P h ≤ mj_sl P h' ∧ (mj_sl P h ≤ sm → mj_sl P h' ≤ sm)
  | 0, lo, k, as, h, o, h', hs => by
    unfold mj_ev at hs
    exact mj_run_le hP (fun _ _ _ _ _ _ z => by cases z) n _ h o h' hs
  | fr + 1, lo, k, as, h, o, h', hs => by
    unfold mj_ev at hs
    exact mj_run_le hP (fun a b c h o h' z => mj_ev_le hP n fr a b c h o h' z) n _ h o h' hs
end MJZ
/-- all that the tables say of the program, in tables that are warmer than s0's -/
def mj_ok (P : mj_P) (l : Launch) (s0 : State) (D : va_G) (cl : List vw_C) (al : Nat → Nat) : Prop :=
  (∀ c, P.2.2.2 (c + 50) = P.2.2.2 c) ∧ (∀ e : Env, l.admits e → e.platform.stackTraces = false) ∧ mj_A al s0.heap.size ∧
  (∀ k pc row, P.2.1 k pc = some row → decode (mj_by P k) pc = .ok (row.1, row.2.1) ∧ mj_chk P k pc row = true ∧ ∀ (s : State) (args : Array Value), s0.WarmedH s.vm → (∀ q : Nat, q < s0.heap.size → s.heap[q]? = s0.heap[q]?) → s0.heap.size ≤ s.heap.size → mj_row P s0 D cl al s args k row) ∧
  (∀ (k : Nat) (U : State), s0.WarmedH U.vm → mj_meth P k U) ∧
  (∀ (k : Nat) (s : State) (args : Array Value), s0.WarmedH s.vm → mj_hok P D s args k) ∧
  ∀ (cx : Nat) (s : State), cx < 4 → s0.WarmedH s.vm → mj_exs D s cx
section MJV
variable {P : mj_P} {s0 : State} {D : va_G} {cl : List vw_C} {al : Nat → Nat} {cm sm c0 n0 k fr lo : Nat} {p : Program} {l : Launch} {e : Env} {R : Room} {s : State} {m : MethodId} {args : Array Value} {below : List Frame} {meth : Method} {c : Code} {h h1 h' : mj_H} {pc : Nat} {lv : mj_L} {st r : List Value} {o : mj_O}
theorem mj_slw (al : Nat → Nat) : ∀ as : List Value, (lg_sl (as.map (mj_lf al))).length = mj_w as
  | [] => rfl
  | v :: vs => by
    have ih := mj_slw al vs
    simp only [lg_sl, List.map_cons, List.flatMap_cons, List.length_append, mj_w, mj_cat] at ih ⊢
    rw [ih]
    rcases lv_cat v with hv | hv <;> simp [hv]
/-- a call that comes back with a value -/
theorem mj_s_callR (X : mj_Fr P s0 cm sm c0 n0 k fr lo p l e R s m meth c) (hmeth : ∀ (q : Nat) (U : State), s0.WarmedH U.vm → mj_meth P q U) {k' : Nat} {as : List Value} {v : Option Value} {ig : Instr} (hd : decode (mj_by P k) pc = .ok (ig, 3)) (hf : 1 ≤ fr) (hw : mj_w r ≤ 8) (hlo : 8 + (mj_ml P k' + 11) ≤ lo) (hsm : mj_sl P h ≤ sm) (hargs : mj_w as ≤ mj_ml P k') (hle : h.length ≤ h1.length) (hle2 : mj_sl P h ≤ mj_sl P h1)
    (hin : ∀ (T : State) (locs : List Loc) (cells slots : Nat) (ls : Array Slot), Stand p l e R s m args below meth c T locs cells slots → mj_R s0 D cl al cm h T.heap → mj_in p l e R s m args below meth c T locs cells slots (mj_nm P k') (as.map (mj_lf al)).toArray (F0 m pc ls (st.map (mj_lf al))) (r.map (mj_lf al)))
    (callee : ∀ (R' : Room) (s' : State) (mk : MethodId) (below' : List Frame) (methk : Method) (ck : Code), mj_Fr P s0 cm sm h.length (mj_sl P h) k' (fr - 1) (lo - (8 + (mj_ml P k' + 11))) p l e R' s' mk methk ck →
      mj_W P s0 D cl al cm sm h.length (mj_sl P h) k' p l e R' s' mk (as.map (mj_lf al)).toArray below' methk ck (.inl v) h1 (0, lv_args 0 as, []) h)
    (kk : mj_W P s0 D cl al cm sm c0 n0 k p l e R s m args below meth c o h' (pc + 3, lv, v.toList ++ r) h1) : mj_W P s0 D cl al cm sm c0 n0 k p l e R s m args below meth c o h' (pc, lv, st) h := by
  intro H locs cells slots ls hR hl hc hs hL T hT XS
  obtain ⟨T₁, mk, t, X₁, hst, hend, hR1, hW, L, hsame, hLb⟩ := mj_through X (fun U hU q _ => hmeth q U hU) XS hT hR hc hs hL.1 (hin T locs cells slots ls XS (by rw [hT]; exact hR)) hd hf hw hlo hsm (by rw [mj_slw]; exact hargs) callee
  obtain ⟨T', X', -, -, ht⟩ := X₁.outOf (g := F0 m pc ls (r.map (mj_lf al))) rfl (by rw [X.2.1]; exact hd) hend hW hsame
  have hh : T'.heap = t.heap := by rw [ht]; rfl
  obtain ⟨t2, a1, b1⟩ := kk T'.heap (locs ++ L) (cells + (h1.length - h.length)) (slots + (mj_sl P h1 - mj_sl P h)) ls (by rw [hh]; exact hR1) (fun q hq => by
      rcases List.mem_append.mp hq with hq | hq
      · exact hl q hq
      · exact hLb q hq) (by omega) (by omega) hL T' rfl X'
  refine ⟨t2, hst t2 ?_, b1⟩
  rw [ht]
  have e1 : (v.toList ++ r).map (mj_lf al) = (v.map (mj_lf al)).toList ++ r.map (mj_lf al) := by cases v <;> rfl
  rw [e1] at a1
  exact a1
/-- a call that throws -/
theorem mj_s_callT (X : mj_Fr P s0 cm sm c0 n0 k fr lo p l e R s m meth c) (hmeth : ∀ (q : Nat) (U : State), s0.WarmedH U.vm → mj_meth P q U) {k' x : Nat} {as : List Value} {ig : Instr} (hd : decode (mj_by P k) pc = .ok (ig, 3)) (hf : 1 ≤ fr) (hw : mj_w r ≤ 8) (hlo : 8 + (mj_ml P k' + 11) ≤ lo) (hsm : mj_sl P h ≤ sm) (hargs : mj_w as ≤ mj_ml P k') (hle : h.length ≤ h1.length) (hle2 : mj_sl P h ≤ mj_sl P h1)
    (hin : ∀ (T : State) (locs : List Loc) (cells slots : Nat) (ls : Array Slot), Stand p l e R s m args below meth c T locs cells slots → mj_R s0 D cl al cm h T.heap → mj_in p l e R s m args below meth c T locs cells slots (mj_nm P k') (as.map (mj_lf al)).toArray (F0 m pc ls (st.map (mj_lf al))) (r.map (mj_lf al)))
    (callee : ∀ (R' : Room) (s' : State) (mk : MethodId) (below' : List Frame) (methk : Method) (ck : Code), mj_Fr P s0 cm sm h.length (mj_sl P h) k' (fr - 1) (lo - (8 + (mj_ml P k' + 11))) p l e R' s' mk methk ck →
      mj_W P s0 D cl al cm sm h.length (mj_sl P h) k' p l e R' s' mk (as.map (mj_lf al)).toArray below' methk ck (.inr x) h1 (0, lv_args 0 as, []) h)
    (hok : mj_hok P D s args k) {cx : Nat} {fs : List Value} (hx : h1[x]? = some (.inr (cx, fs))) (h4 : cx < 4) (hex : mj_exs D s cx)
    (kk : (mj_find (mj_hd P k) pc cx = some none ∧ o = .inr x ∧ h' = h1) ∨ ∃ hp, mj_find (mj_hd P k) pc cx = some (some hp) ∧ mj_W P s0 D cl al cm sm c0 n0 k p l e R s m args below meth c o h' (hp, lv, [.ref x]) h1) : mj_W P s0 D cl al cm sm c0 n0 k p l e R s m args below meth c o h' (pc, lv, st) h := by
  intro H locs cells slots ls hR hl hc hs hL T hT XS
  obtain ⟨T₁, mk, t, X₁, hst, hend, hR1, hW, L, hsame, hLb⟩ := mj_through X (fun U hU q _ => hmeth q U hU) XS hT hR hc hs hL.1 (hin T locs cells slots ls XS (by rw [hT]; exact hR)) hd hf hw hlo hsm (by rw [mj_slw]; exact hargs) callee
  obtain ⟨T', X', -, -, ht⟩ := X₁.outOfThrown (g := F0 m pc ls (r.map (mj_lf al))) rfl hend hW hsame
  have hh : T'.heap = t.heap := by rw [ht]; rfl
  have hl1 : ∀ q ∈ locs ++ L, s0.heap.size ≤ q.base := fun q hq => by
    rcases List.mem_append.mp hq with hq | hq
    · exact hl q hq
    · exact hLb q hq
  rcases kk with ⟨hf0, rfl, rfl⟩ | ⟨hp, hf1, kk⟩
  · have hout : ∀ y ∈ c.exceptionTable.toList, covers y pc = false := by
      rw [X.2.2.2.2.2.2.2.1]
      exact mj_none hf0
    obtain ⟨z1, z2, z3, z4, z5⟩ := X'.leaveThrown (al x) (g := F0 m pc ls (r.map (mj_lf al))) rfl rfl rfl hout X.2.2.2.2.2.1
    refine ⟨_, hst _ (by rw [ht]; exact z1), z2, z3, ?_, z4, locs ++ L, ?_, hl1⟩
    · show mj_R s0 D cl al cm h' T'.heap
      rw [hh]
      exact hR1
    · rw [show h'.length - c0 = cells + (h'.length - h.length) by omega, show mj_sl P h' - n0 = slots + (mj_sl P h' - mj_sl P h) by omega]
      exact z5
  · have hat := hR1.2.2.2.2 x _ hx
    unfold mj_at at hat
    dsimp only at hat
    rw [show Nat.ble 50 cx = false by cases hb : Nat.ble 50 cx with | false => rfl | true => exact absurd (Nat.le_of_ble_eq_true hb) (by omega)] at hat
    obtain ⟨r', q1, q2, cell, q3, q4, q5, q6⟩ := hat
    obtain ⟨vm', X2, hst2⟩ := mj_catch (ls := ls) X X' hok (a := al x) (cell := cell) (by rw [hh]; exact q3) q5 q4 hex hf1 (r.map (mj_lf al))
    obtain ⟨t2, a1, b1⟩ := kk (T'.setVm vm').heap (locs ++ L) (cells + (h1.length - h.length)) (slots + (mj_sl P h1 - mj_sl P h)) ls (by show mj_R s0 D cl al cm h1 T'.heap; rw [hh]; exact hR1) hl1 (by omega) (by omega) hL (T'.setVm vm') rfl X2
    exact ⟨t2, hst t2 (by rw [ht]; exact hst2 t2 a1), b1⟩
/-- a call's entering, from the row -/
theorem mj_inv_in (hok : mj_ok P l s0 D cl al) (X : mj_Fr P s0 cm sm c0 n0 k fr lo p l e R s m meth c) {row : mj_I} (hd : decode (mj_by P k) pc = .ok (row.1, row.2.1)) (hrow : mj_row P s0 D cl al s args k row) {k' : Nat} {as : List Value} (hck : mj_chk P k pc row = true) (hi : mj_inv row st h = some (k', as, r)) :
    row.2.1 = 3 ∧ ∀ (T : State) (locs : List Loc) (cells slots : Nat) (ls : Array Slot), Stand p l e R s m args below meth c T locs cells slots → mj_R s0 D cl al cm h T.heap → mj_in p l e R s m args below meth c T locs cells slots (mj_nm P k') (as.map (mj_lf al)).toArray (F0 m pc ls (st.map (mj_lf al))) (r.map (mj_lf al)) := by
  obtain ⟨x1, x2, x3, x4, x5, x6, x7, x8, x9, x10, x11, x12, x13, x14, x15⟩ := X
  have hmeth : mj_meth P k' s := hok.2.2.2.2.1 k' s x9
  have key : ∀ (n : Nat) (v : List Value), st.drop n = v → st = ((st.take n).reverse).reverse ++ v := by
    intro n v hv
    rw [List.reverse_reverse, ← hv, List.take_append_drop]
  obtain ⟨ins, len, ax⟩ := row
  dsimp only at hd
  unfold mj_inv at hi
  dsimp only at hi
  split at hi
  next i q n ci =>
    split at hi
    next a r' hdrop =>
      split at hi
      next cc fs ha =>
        split at hi
        next hb =>
          cases hi
          have hln : len = 3 := of_decide_eq_true hck
          subst hln
          have hcc : cc = ci := Nat.eq_of_beq_eq_true hb
          subst hcc
          obtain ⟨hn, hw⟩ := hrow _ _ _ rfl
          refine ⟨rfl, fun T locs cells slots ls XS hR => ?_⟩
          have hat := hR.2.2.2.2 a _ ha
          unfold mj_at at hat
          dsimp only at hat
          rw [hw.1] at hat
          obtain ⟨rr, q1, q2, cell, q3, q4, q5, q6⟩ := hat
          have hlen : ((st.take n).reverse.map (mj_lf al)).length = mj_na P k' := by
            have h1 : n < st.length := by
              rcases Nat.lt_or_ge n st.length with z | z
              · exact z
              · rw [List.drop_eq_nil_of_le z] at hdrop
                cases hdrop
            simp
            omega
          have e1 : st.map (mj_lf al) = ((st.take n).reverse.map (mj_lf al)).reverse ++ .ref (al a) :: r.map (mj_lf al) := by
            have z := congrArg (List.map (mj_lf al)) (key n _ hdrop)
            rw [List.map_append, List.map_reverse] at z
            exact z
          rw [e1]
          exact mj_inV x1 XS x3 hw hmeth hlen q3 q4 q5 (by rw [x2]; exact hd)
        next => cases hi
      next => cases hi
    next => cases hi
  next i q n =>
    split at hi
    next hb =>
      cases hi
      have hln : len = 3 := of_decide_eq_true hck
      subst hln
      obtain ⟨hn, hw⟩ := hrow _ _ rfl
      have hb := Nat.le_of_ble_eq_true hb
      refine ⟨rfl, fun T locs cells slots ls XS hR => ?_⟩
      have hlen : ((st.take n).reverse.map (mj_lf al)).length = mj_na P k' := by
        simp
        omega
      have e1 : st.map (mj_lf al) = ((st.take n).reverse.map (mj_lf al)).reverse ++ (st.drop n).map (mj_lf al) := by
        have z := congrArg (List.map (mj_lf al)) (key n _ rfl)
        rw [List.map_append, List.map_reverse] at z
        exact z
      rw [e1]
      exact mj_inS x1 XS x3 hw hmeth hlen (by rw [x2]; exact hd)
    next => cases hi
  next i q n =>
    split at hi
    next a r' hdrop =>
      cases hi
      have hln : len = 3 := of_decide_eq_true hck
      subst hln
      obtain ⟨hn, hw⟩ := hrow.1 _ _ rfl
      refine ⟨rfl, fun T locs cells slots ls XS hR => ?_⟩
      have hlen : ((st.take n).reverse.map (mj_lf al)).length = mj_na P k' := by
        have h1 : n < st.length := by
          rcases Nat.lt_or_ge n st.length with z | z
          · exact z
          · rw [List.drop_eq_nil_of_le z] at hdrop
            cases hdrop
        simp
        omega
      have e1 : st.map (mj_lf al) = ((st.take n).reverse.map (mj_lf al)).reverse ++ .ref (al a) :: r.map (mj_lf al) := by
        have z := congrArg (List.map (mj_lf al)) (key n _ hdrop)
        rw [List.map_append, List.map_reverse] at z
        exact z
      rw [e1]
      exact mj_inI x1 XS x3 hw hmeth hlen (by rw [x2]; exact hd)
    next => cases hi
  next => cases hi
theorem mj_run_sound (hok : mj_ok P l s0 D cl al) (hcm : cm ≤ 100000) {call : Nat → Nat → List Value → mj_H → Option (mj_O × mj_H)} (hle : ∀ a b c h o h', call a b c h = some (o, h') → h.length ≤ h'.length ∧ mj_sl P h ≤ mj_sl P h' ∧ (mj_sl P h ≤ sm → mj_sl P h' ≤ sm))
    (hcall : ∀ (lo' k' : Nat) (as : List Value) (h : mj_H) (o : mj_O) (h' : mj_H), call lo' k' as h = some (o, h') → mj_sl P h ≤ sm → ∀ (R' : Room) (s' : State) (mk : MethodId) (below' : List Frame) (methk : Method) (ck : Code), mj_Fr P s0 cm sm h.length (mj_sl P h) k' (fr - 1) lo' p l e R' s' mk methk ck →
      mj_W P s0 D cl al cm sm h.length (mj_sl P h) k' p l e R' s' mk (as.map (mj_lf al)).toArray below' methk ck o h' (0, lv_args 0 as, []) h)
    (X : mj_Fr P s0 cm sm c0 n0 k fr lo p l e R s m meth c) :
    ∀ (n : Nat) (F : mj_F) (h : mj_H) (o : mj_O) (h' : mj_H), mj_run P cm sm call k fr lo n F h = some (o, h') → mj_sl P h ≤ sm → mj_W P s0 D cl al cm sm c0 n0 k p l e R s m args below meth c o h' F h
  | 0, _, _, _, _, hs, _ => by cases hs
  | n + 1, (pc, lv, st), h, o, h', hs, hsm => by
    obtain ⟨hP, htr, hA, hrows, hmeth, hhok, hexs⟩ := id hok
    unfold mj_run at hs
    split at hs
    next => cases hs
    next row hrow =>
      obtain ⟨hd, hck, hro⟩ := hrows k pc row hrow
      have hr := hro s args X.2.2.2.2.2.2.2.2.1 X.2.2.2.2.2.2.2.2.2.1 X.2.2.2.2.2.2.2.2.2.2.1
      split at hs
      next F h2 hsim =>
        exact mj_sim_sound X hA hcm htr hd hck hr hsim (mj_run_sound hok hcm hle hcall X n F h2 o h' hs ((mj_sim_le hP hsim).2.2 hsm))
      next hno =>
        clear hno
        split at hs
        next v hv =>
          cases hs
          obtain ⟨ins, len, ax⟩ := row
          dsimp only at hd hv
          unfold mj_ret at hv
          split at hv
          next x hrt =>
            cases hv
            have hln : len = 1 := of_decide_eq_true hck
            subst hln
            exact mj_s_iret X hd hrt
          next x hrt =>
            split at hv
            next hx =>
              cases hv
              have hln : len = 1 := of_decide_eq_true hck
              subst hln
              exact mj_s_zret X hd hrt hx
            next => cases hv
          next x hrt =>
            cases hv
            have hln : len = 1 := of_decide_eq_true hck
            subst hln
            exact mj_s_lret X hd hrt
          next hrt =>
            cases hv
            have hln : len = 1 := of_decide_eq_true hck
            subst hln
            exact mj_s_vret X hd hrt
          next => cases hv
        next hno =>
          clear hno
          split at hs
          next k' as r hinv =>
            obtain ⟨hln, hin⟩ := mj_inv_in (below := below) hok X hd hr hck hinv
            rw [hln] at hd
            split at hs
            next hb =>
              simp only [Bool.and_eq_true] at hb
              obtain ⟨⟨⟨hb1, hb2⟩, hb3⟩, hb4⟩ := hb
              have hb1 := Nat.le_of_ble_eq_true hb1
              have hb2 := Nat.le_of_ble_eq_true hb2
              have hb3 := Nat.le_of_ble_eq_true hb3
              have hb4 := Nat.le_of_ble_eq_true hb4
              split at hs
              next => cases hs
              next v h2 hc =>
                obtain ⟨a1, a2, a3⟩ := hle _ _ _ _ _ _ hc
                exact mj_s_callR X hmeth hd hb1 hb2 hb3 hsm hb4 a1 a2 hin (hcall _ _ _ _ _ _ hc hsm) (mj_run_sound hok hcm hle hcall X n _ h2 o h' hs (a3 hsm))
              next x h2 hc =>
                obtain ⟨a1, a2, a3⟩ := hle _ _ _ _ _ _ hc
                split at hs
                next cx fs hx =>
                  split at hs
                  next h4 hf =>
                    cases hs
                    have h4 : cx < 4 := Nat.le_of_ble_eq_true h4
                    exact mj_s_callT X hmeth hd hb1 hb2 hb3 hsm hb4 a1 a2 hin (hcall _ _ _ _ _ _ hc hsm) (hhok k s args X.2.2.2.2.2.2.2.2.1) hx h4 (hexs cx s h4 X.2.2.2.2.2.2.2.2.1) (Or.inl ⟨hf, rfl, rfl⟩)
                  next hp h4 hf =>
                    have h4 : cx < 4 := Nat.le_of_ble_eq_true h4
                    exact mj_s_callT X hmeth hd hb1 hb2 hb3 hsm hb4 a1 a2 hin (hcall _ _ _ _ _ _ hc hsm) (hhok k s args X.2.2.2.2.2.2.2.2.1) hx h4 (hexs cx s h4 X.2.2.2.2.2.2.2.2.1) (Or.inr ⟨hp, hf, mj_run_sound hok hcm hle hcall X n _ h2 o h' hs (a3 hsm)⟩)
                  next => cases hs
                next => cases hs
            next => cases hs
          next hno =>
            clear hno
            split at hs
            next x r hi hhd =>
              cases hs
              obtain ⟨ins, len, ax⟩ := row
              dsimp only at hd hi
              subst hi
              have hln : len = 1 := of_decide_eq_true hck
              subst hln
              exact mj_s_athrow X hd hhd
            next => cases hs
theorem mj_ev_sound (hok : mj_ok P l s0 D cl al) (hcm : cm ≤ 100000) (n : Nat) : ∀ (fr lo k : Nat) (as : List Value) (h : mj_H) (o : mj_O) (h' : mj_H), mj_ev P cm sm n fr lo k as h = some (o, h') → mj_sl P h ≤ sm → ∀ (R : Room) (s : State) (m : MethodId) (below : List Frame) (meth : Method) (c : Code), mj_Fr P s0 cm sm h.length (mj_sl P h) k fr lo p l e R s m meth c →
      mj_W P s0 D cl al cm sm h.length (mj_sl P h) k p l e R s m (as.map (mj_lf al)).toArray below meth c o h' (0, lv_args 0 as, []) h
  | 0, lo, k, as, h, o, h', hs, hsm, R, s, m, below, meth, c, X => by
    unfold mj_ev at hs
    exact mj_run_sound hok hcm (fun _ _ _ _ _ _ z => by cases z) (fun _ _ _ _ _ _ z => by cases z) X n _ h o h' hs hsm
  | fr + 1, lo, k, as, h, o, h', hs, hsm, R, s, m, below, meth, c, X => by
    unfold mj_ev at hs
    exact mj_run_sound (fr := fr + 1) hok hcm (fun a b c h o h' z => mj_ev_le hok.1 n fr a b c h o h' z) (fun lo' k' as h o h' z hz R' s' mk below' methk ck X' => mj_ev_sound hok hcm n fr lo' k' as h o h' z hz R' s' mk below' methk ck X') X n _ h o h' hs hsm
end MJV
