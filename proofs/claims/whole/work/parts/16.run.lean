section MJQ
variable {P : mj_P} {s0 : State} {D : va_G} {cl : List vw_C} {al : Nat → Nat} {cm sm c0 n0 k fr lo : Nat} {p : Program} {l : Launch} {e : Env} {R : Room} {s : State} {m : MethodId} {args : Array Value} {below : List Frame} {meth : Method} {c : Code} {h h1 h' : mj_H} {pc : Nat} {lv : mj_L} {st r : List Value} {o : mj_O}
/-- what the tables say of a row -/
def mj_row (P : mj_P) (s0 : State) (D : va_G) (cl : List vw_C) (al : Nat → Nat) (s : State) (args : Array Value) (k : Nat) (row : mj_I) : Prop := match row.1 with
  | .ldc i => (∀ n, row.2.2 = [0, n] → (Cond.constant (mj_nm P k).cls i (Int32.ofNat n)).before args s = true) ∧ (∀ n, row.2.2 = [1, n] → ∃ text, (Cond.stringRef (mj_nm P k).cls i text).before args s = true ∧ (Term.string (mj_nm P k).cls i).eval args s none [] s = some (.ref (al (100000 + n))))
  | .ldc_w i => ∀ n, row.2.2 = [1, n] → ∃ text, (Cond.stringRef (mj_nm P k).cls i text).before args s = true ∧ (Term.string (mj_nm P k).cls i).eval args s none [] s = some (.ref (al (100000 + n)))
  | .ldc2_w i => ∀ n, row.2.2 = [n] → (Cond.constantLong (mj_nm P k).cls i (Int64.ofNat n)).before args s = true
  | .getfield i => ∀ ci j, row.2.2 = [ci, j] → mj_fld D cl s args (mj_nm P k).cls i ci j
  | .putfield i => ∀ ci j t, row.2.2 = [ci, j, t] → mj_fpt D cl s args (mj_nm P k) i ci j t
  | .getstatic i => ∀ q, row.2.2 = [q] → mj_sta s0 al s args (mj_nm P k).cls i q
  | .new i => ∀ ci, row.2.2 = [ci] → mj_nof P D cl al s args (mj_nm P k).cls i ci
  | .newarray t => (Cond.arrayClass (newarray.typeOf t)).before args s = true
  | .invokevirtual i => ∀ q n ci, row.2.2 = [q, n, ci] → n = mj_na P q ∧ mj_cV D cl s args (mj_nm P k).cls i (mj_nm P q) ci
  | .invokestatic i => ∀ q n, row.2.2 = [q, n] → n = mj_na P q ∧ mj_cS s args (mj_nm P k).cls i (mj_nm P q)
  | .invokespecial i => (∀ q n, row.2.2 = [1, q, n] → n = mj_na P q ∧ mj_cI P s args (mj_nm P k).cls i q) ∧
      (row.2.2 = [0] → (Cond.methodLink (mj_nm P k).cls i Lib.objectInit).before args s = true ∧ (Cond.instanceMethod Lib.objectInit).before args s = true ∧ (Cond.code Lib.objectInit ⟨#[0xb1]⟩ 1 none).before args s = true) ∧
      (∀ cx, row.2.2 = [2, cx] → mj_exf P s0 D cl s args (mj_nm P k).cls i cx)
  | _ => True
/-- what can be read off a row alone: its length, its targets, the places of its locals -/
def mj_len : Instr → Nat
  | .bipush _ | .ldc _ | .iload _ | .lload _ | .aload _ | .istore _ | .lstore _ | .astore _ | .newarray _ => 2
  | .sipush _ | .ldc_w _ | .ldc2_w _ | .iinc _ _ | .goto _ | .ifCond _ _ | .if_icmp _ _ | .getfield _ | .putfield _ | .getstatic _ | .new _ | .invokespecial _ | .invokevirtual _ | .invokestatic _ => 3
  | _ => 1
def mj_jump (pc : Nat) (off : Int) (t : Nat) : Bool := decide ((pc : Int) + off = (t : Int))
def mj_chk (P : mj_P) (k pc : Nat) (row : mj_I) : Bool := match row.1 with
  | .tableswitch d _ _ offs => (match row.2.2 with
    | t :: ts => mj_jump pc d t && (decide (ts.length = offs.size) && (offs.toList.zip ts).all fun q => mj_jump pc q.1 q.2)
    | _ => false)
  | .goto off => decide (row.2.1 = 3) && row.2.2.all (mj_jump pc off)
  | .ifCond _ off => decide (row.2.1 = 3) && row.2.2.all (mj_jump pc off)
  | .if_icmp _ off => decide (row.2.1 = 3) && row.2.2.all (mj_jump pc off)
  | .istore_n i => decide (row.2.1 = 1) && decide (i.val < mj_ml P k)
  | .astore_n i => decide (row.2.1 = 1) && decide (i.val < mj_ml P k)
  | .lstore_n i => decide (row.2.1 = 1) && decide (i.val + 1 < mj_ml P k)
  | .istore i => decide (row.2.1 = 2) && decide (i < mj_ml P k)
  | .astore i => decide (row.2.1 = 2) && decide (i < mj_ml P k)
  | .lstore i => decide (row.2.1 = 2) && decide (i + 1 < mj_ml P k)
  | .iinc i _ => decide (row.2.1 = 3) && decide (i < mj_ml P k)
  | i => decide (row.2.1 = mj_len i)
set_option maxHeartbeats 4000000 in
theorem mj_sim_sound (X : mj_Fr P s0 cm sm c0 n0 k fr lo p l e R s m meth c) (hA : mj_A al s0.heap.size) (hcm : cm ≤ 100000) (htr : ∀ e : Env, l.admits e → e.platform.stackTraces = false) {row : mj_I} (hd : decode (mj_by P k) pc = .ok (row.1, row.2.1)) (hck : mj_chk P k pc row = true) (hrow : mj_row P s0 D cl al s args k row)
    {F : mj_F} (hs : mj_sim P fr lo cm sm row pc lv st h = some (F, h1)) (kk : mj_W P s0 D cl al cm sm c0 n0 k p l e R s m args below meth c o h' F h1) : mj_W P s0 D cl al cm sm c0 n0 k p l e R s m args below meth c o h' (pc, lv, st) h := by
  obtain ⟨ins, len, ax⟩ := row
  dsimp only at hd
  cases ins
  all_goals (unfold mj_sim at hs; dsimp only at hs)
  case iconst n =>
    have hln : len = 1 := of_decide_eq_true hck
    subst hln
    cases hs
    exact mj_s_iconst X hd kk
  case bipush n =>
    have hln : len = 2 := of_decide_eq_true hck
    subst hln
    cases hs
    exact mj_s_bipush X hd kk
  case sipush n =>
    have hln : len = 3 := of_decide_eq_true hck
    subst hln
    cases hs
    exact mj_s_sipush X hd kk
  case lconst n =>
    have hln : len = 1 := of_decide_eq_true hck
    subst hln
    cases hs
    exact mj_s_lconst X hd kk
  case iload_n i =>
    have hln : len = 1 := of_decide_eq_true hck
    subst hln
    split at hs
    next x hx =>
      cases hs
      exact mj_s_iload_n X hx hd kk
    next => cases hs
  case iload i =>
    have hln : len = 2 := of_decide_eq_true hck
    subst hln
    split at hs
    next x hx =>
      cases hs
      exact mj_s_iload X hx hd kk
    next => cases hs
  case istore_n i =>
    obtain ⟨hln, hn⟩ := Bool.and_eq_true_iff.mp hck
    have hln : len = 1 := of_decide_eq_true hln
    subst hln
    split at hs
    next x r =>
      cases hs
      exact mj_s_istore_n X (of_decide_eq_true hn) hd kk
    next => cases hs
  case istore i =>
    obtain ⟨hln, hn⟩ := Bool.and_eq_true_iff.mp hck
    have hln : len = 2 := of_decide_eq_true hln
    subst hln
    split at hs
    next x r =>
      cases hs
      exact mj_s_istore X (of_decide_eq_true hn) hd kk
    next => cases hs
  case lload_n i =>
    have hln : len = 1 := of_decide_eq_true hck
    subst hln
    split at hs
    next x hx =>
      cases hs
      exact mj_s_lload_n X hx hd kk
    next => cases hs
  case lload i =>
    have hln : len = 2 := of_decide_eq_true hck
    subst hln
    split at hs
    next x hx =>
      cases hs
      exact mj_s_lload X hx hd kk
    next => cases hs
  case lstore_n i =>
    obtain ⟨hln, hn⟩ := Bool.and_eq_true_iff.mp hck
    have hln : len = 1 := of_decide_eq_true hln
    subst hln
    split at hs
    next x r =>
      cases hs
      exact mj_s_lstore_n X (of_decide_eq_true hn) hd kk
    next => cases hs
  case lstore i =>
    obtain ⟨hln, hn⟩ := Bool.and_eq_true_iff.mp hck
    have hln : len = 2 := of_decide_eq_true hln
    subst hln
    split at hs
    next x r =>
      cases hs
      exact mj_s_lstore X (of_decide_eq_true hn) hd kk
    next => cases hs
  case aload_n i =>
    have hln : len = 1 := of_decide_eq_true hck
    subst hln
    split at hs
    next x hx =>
      cases hs
      exact mj_s_aload_n X hx hd kk
    next => cases hs
  case aload i =>
    have hln : len = 2 := of_decide_eq_true hck
    subst hln
    split at hs
    next x hx =>
      cases hs
      exact mj_s_aload X hx hd kk
    next => cases hs
  case astore_n i =>
    obtain ⟨hln, hn⟩ := Bool.and_eq_true_iff.mp hck
    have hln : len = 1 := of_decide_eq_true hln
    subst hln
    split at hs
    next x r =>
      cases hs
      exact mj_s_astore_n X (of_decide_eq_true hn) hd kk
    next => cases hs
  case astore i =>
    obtain ⟨hln, hn⟩ := Bool.and_eq_true_iff.mp hck
    have hln : len = 2 := of_decide_eq_true hln
    subst hln
    split at hs
    next x r =>
      cases hs
      exact mj_s_astore X (of_decide_eq_true hn) hd kk
    next => cases hs
  case iinc i n =>
    obtain ⟨hln, hn⟩ := Bool.and_eq_true_iff.mp hck
    have hln : len = 3 := of_decide_eq_true hln
    subst hln
    split at hs
    next x hx =>
      cases hs
      exact mj_s_iinc X hx (of_decide_eq_true hn) hd kk
    next => cases hs
  case lcmp =>
    have hln : len = 1 := of_decide_eq_true hck
    subst hln
    split at hs
    next y x r =>
      cases hs
      exact mj_s_lcmp X hd kk
    next => cases hs
  case i2l =>
    have hln : len = 1 := of_decide_eq_true hck
    subst hln
    split at hs
    next x r =>
      cases hs
      exact mj_s_i2l X hd kk
    next => cases hs
  case l2i =>
    have hln : len = 1 := of_decide_eq_true hck
    subst hln
    split at hs
    next x r =>
      cases hs
      exact mj_s_l2i X hd kk
    next => cases hs
  case i2b =>
    have hln : len = 1 := of_decide_eq_true hck
    subst hln
    split at hs
    next x r =>
      cases hs
      exact mj_s_i2b X hd kk
    next => cases hs
  case i2c =>
    have hln : len = 1 := of_decide_eq_true hck
    subst hln
    split at hs
    next x r =>
      cases hs
      exact mj_s_i2c X hd kk
    next => cases hs
  case ineg =>
    have hln : len = 1 := of_decide_eq_true hck
    subst hln
    split at hs
    next x r =>
      cases hs
      exact mj_s_ineg X hd kk
    next => cases hs
  case dup =>
    have hln : len = 1 := of_decide_eq_true hck
    subst hln
    split at hs
    next x r =>
      cases hs
      exact mj_s_dup X rfl hd kk
    next x r =>
      cases hs
      exact mj_s_dup X rfl hd kk
    next => cases hs
  case pop =>
    have hln : len = 1 := of_decide_eq_true hck
    subst hln
    split at hs
    next x r =>
      cases hs
      exact mj_s_pop X rfl hd kk
    next x r =>
      cases hs
      exact mj_s_pop X rfl hd kk
    next => cases hs
  case dup_x1 =>
    have hln : len = 1 := of_decide_eq_true hck
    subst hln
    split at hs
    next x y r =>
      cases hs
      exact mj_s_dup_x1 X rfl rfl hd kk
    next => cases hs
  case dup2 =>
    have hln : len = 1 := of_decide_eq_true hck
    subst hln
    split at hs
    next x y r =>
      cases hs
      exact mj_s_dup2 X rfl rfl hd kk
    next => cases hs
  case goto off =>
    obtain ⟨hln, hn⟩ := Bool.and_eq_true_iff.mp hck
    have hln : len = 3 := of_decide_eq_true hln
    subst hln
    split at hs
    next t =>
      cases hs
      have ht : (pc : Int) + off = (t : Int) := of_decide_eq_true (List.all_eq_true.mp hn t List.mem_cons_self)
      exact mj_s_goto X ht hd kk
    next => cases hs
  case ifCond cd off =>
    obtain ⟨hln, hn⟩ := Bool.and_eq_true_iff.mp hck
    have hln : len = 3 := of_decide_eq_true hln
    subst hln
    split at hs
    next t x r =>
      have ht : (pc : Int) + off = (t : Int) := of_decide_eq_true (List.all_eq_true.mp hn t List.mem_cons_self)
      have kt : ∀ b, mj_cmp cd x 0 = b → mj_W P s0 D cl al cm sm c0 n0 k p l e R s m args below meth c o h' (if b = true then (t, lv, r) else (pc + 3, lv, r)) h := by
        intro b hb
        rw [hb] at hs
        cases b
        · cases hs
          exact kk
        · cases hs
          exact kk
      cases cd
      · exact mj_s_if_eq X hd ht (fun z => kt true z) (fun z => kt false z)
      · exact mj_s_if_ne X hd ht (fun z => kt true z) (fun z => kt false z)
      · exact mj_s_if_lt X hd ht (fun z => kt true z) (fun z => kt false z)
      · exact mj_s_if_ge X hd ht (fun z => kt true z) (fun z => kt false z)
      · exact mj_s_if_gt X hd ht (fun z => kt true z) (fun z => kt false z)
      · exact mj_s_if_le X hd ht (fun z => kt true z) (fun z => kt false z)
    next => cases hs
  case if_icmp cd off =>
    obtain ⟨hln, hn⟩ := Bool.and_eq_true_iff.mp hck
    have hln : len = 3 := of_decide_eq_true hln
    subst hln
    split at hs
    next t y x r =>
      have ht : (pc : Int) + off = (t : Int) := of_decide_eq_true (List.all_eq_true.mp hn t List.mem_cons_self)
      have kt : ∀ b, mj_cmp cd x y = b → mj_W P s0 D cl al cm sm c0 n0 k p l e R s m args below meth c o h' (if b = true then (t, lv, r) else (pc + 3, lv, r)) h := by
        intro b hb
        rw [hb] at hs
        cases b
        · cases hs
          exact kk
        · cases hs
          exact kk
      cases cd
      · exact mj_s_icmp_eq X hd ht (fun z => kt true z) (fun z => kt false z)
      · exact mj_s_icmp_ne X hd ht (fun z => kt true z) (fun z => kt false z)
      · exact mj_s_icmp_lt X hd ht (fun z => kt true z) (fun z => kt false z)
      · exact mj_s_icmp_ge X hd ht (fun z => kt true z) (fun z => kt false z)
      · exact mj_s_icmp_gt X hd ht (fun z => kt true z) (fun z => kt false z)
      · exact mj_s_icmp_le X hd ht (fun z => kt true z) (fun z => kt false z)
    next => cases hs
  case tableswitch d lo1 hi offs =>
    split at hs
    next t ts x r =>
      simp only [mj_chk, Bool.and_eq_true, decide_eq_true_eq] at hck
      obtain ⟨ht, hlen, hall⟩ := hck
      split at hs
      next hx =>
        cases hs
        exact mj_s_tout X hd hx (of_decide_eq_true ht) kk
      next hx =>
        split at hs
        next t' ht' =>
          cases hs
          have hlt : (x.toInt - lo1).toNat < ts.length := (List.getElem?_eq_some_iff.mp ht').1
          have hlo : (x.toInt - lo1).toNat < offs.size := by omega
          have hmem : (offs[(x.toInt - lo1).toNat], t') ∈ offs.toList.zip ts := by
            refine List.mem_of_getElem? (i := (x.toInt - lo1).toNat) ?_
            rw [List.getElem?_zip_eq_some]
            exact ⟨by simp [hlo], ht'⟩
          have hj : (pc : Int) + offs[(x.toInt - lo1).toNat] = (t' : Int) := of_decide_eq_true (List.all_eq_true.mp hall _ hmem)
          exact mj_s_tin X hd (fun z => hx (Or.inl z)) (fun z => hx (Or.inr z)) (by simp [hlo]) hj kk
        next => cases hs
    next => cases hs
  case ldc i =>
    have hln : len = 2 := of_decide_eq_true hck
    subst hln
    split at hs
    next n =>
      cases hs
      exact mj_s_ldcI X hd (hrow.1 n rfl) kk
    next n =>
      cases hs
      obtain ⟨text, w1, w2⟩ := hrow.2 n rfl
      exact mj_s_ldcS X hd w1 w2 kk
    next => cases hs
  case ldc_w i =>
    have hln : len = 3 := of_decide_eq_true hck
    subst hln
    split at hs
    next n =>
      cases hs
      obtain ⟨text, w1, w2⟩ := hrow n rfl
      exact mj_s_ldcw X hd w1 w2 kk
    next => cases hs
  case ldc2_w i =>
    have hln : len = 3 := of_decide_eq_true hck
    subst hln
    split at hs
    next n =>
      cases hs
      exact mj_s_ldc2 X hd (hrow n rfl) kk
    next => cases hs
  case getfield i =>
    have hln : len = 3 := of_decide_eq_true hck
    subst hln
    split at hs
    next ci j a r =>
      split at hs
      next cc fs ha =>
        split at hs
        next v hb hv =>
          cases hs
          have hcc : cc = ci := Nat.eq_of_beq_eq_true hb
          subst hcc
          exact mj_s_getf X hd (hrow cc j rfl) ha hv kk
        next => cases hs
      next => cases hs
    next => cases hs
  case putfield i =>
    have hln : len = 3 := of_decide_eq_true hck
    subst hln
    split at hs
    next ci j t v a r =>
      split at hs
      next cc fs ha =>
        split at hs
        next x hb =>
          cases hs
          simp only [Bool.and_eq_true] at hb
          obtain ⟨⟨hb1, hb2⟩, hb3⟩ := hb
          have hcc : cc = ci := Nat.eq_of_beq_eq_true hb1
          subst hcc
          exact mj_s_putf X hA hcm hd (hrow cc j 0 rfl) ha (Nat.le_of_ble_eq_true hb2) (Nat.le_of_ble_eq_true hb3) (Or.inl ⟨rfl, x, rfl⟩) kk
        next x hb =>
          cases hs
          simp only [Bool.and_eq_true] at hb
          obtain ⟨⟨hb1, hb2⟩, hb3⟩ := hb
          have hcc : cc = ci := Nat.eq_of_beq_eq_true hb1
          subst hcc
          exact mj_s_putf X hA hcm hd (hrow cc j 1 rfl) ha (Nat.le_of_ble_eq_true hb2) (Nat.le_of_ble_eq_true hb3) (Or.inr ⟨rfl, x, rfl⟩) kk
        next => cases hs
      next => cases hs
    next => cases hs
  case getstatic i =>
    have hln : len = 3 := of_decide_eq_true hck
    subst hln
    split at hs
    next q =>
      cases hs
      exact mj_s_gets X hd (hrow q rfl) kk
    next => cases hs
  case arraylength =>
    have hln : len = 1 := of_decide_eq_true hck
    subst hln
    split at hs
    next a r =>
      split at hs
      next q x ha =>
        cases hs
        exact mj_s_alen X hd ha kk
      next => cases hs
    next => cases hs
  case iaload =>
    have hln : len = 1 := of_decide_eq_true hck
    subst hln
    split at hs
    next i a r =>
      simp only [Option.bind_eq_some_iff, Option.map_eq_some_iff] at hs
      obtain ⟨⟨q, x⟩, ha, j, hj, v, hv, hs⟩ := hs
      cases hs
      exact mj_s_aldI X (Or.inl ⟨rfl, rfl, rfl⟩) hd ha hj hv kk
    next => cases hs
  case baload =>
    have hln : len = 1 := of_decide_eq_true hck
    subst hln
    split at hs
    next i a r =>
      simp only [Option.bind_eq_some_iff, Option.map_eq_some_iff] at hs
      obtain ⟨⟨q, x⟩, ha, j, hj, v, hv, hs⟩ := hs
      cases hs
      exact mj_s_aldI X (Or.inr (Or.inl ⟨rfl, rfl, rfl⟩)) hd ha hj hv kk
    next => cases hs
  case caload =>
    have hln : len = 1 := of_decide_eq_true hck
    subst hln
    split at hs
    next i a r =>
      simp only [Option.bind_eq_some_iff, Option.map_eq_some_iff] at hs
      obtain ⟨⟨q, x⟩, ha, j, hj, v, hv, hs⟩ := hs
      cases hs
      exact mj_s_aldI X (Or.inr (Or.inr ⟨rfl, rfl, rfl⟩)) hd ha hj hv kk
    next => cases hs
  case laload =>
    have hln : len = 1 := of_decide_eq_true hck
    subst hln
    split at hs
    next i a r =>
      simp only [Option.bind_eq_some_iff, Option.map_eq_some_iff] at hs
      obtain ⟨⟨q, x⟩, ha, j, hj, v, hv, hs⟩ := hs
      cases hs
      exact mj_s_aldL X hd ha hj hv kk
    next => cases hs
  case iastore =>
    have hln : len = 1 := of_decide_eq_true hck
    subst hln
    split at hs
    next v i a r =>
      split at hs
      next h3 =>
        simp only [Option.bind_eq_some_iff, Option.map_eq_some_iff] at hs
        obtain ⟨⟨q, x⟩, ha, j, hj, y, hy, hs⟩ := hs
        cases hs
        exact mj_s_astI X hA hcm (Or.inl ⟨rfl, rfl, rfl⟩) hd ha (Nat.le_of_ble_eq_true h3) hj hy kk
      next => cases hs
    next => cases hs
  case bastore =>
    have hln : len = 1 := of_decide_eq_true hck
    subst hln
    split at hs
    next v i a r =>
      split at hs
      next h3 =>
        simp only [Option.bind_eq_some_iff, Option.map_eq_some_iff] at hs
        obtain ⟨⟨q, x⟩, ha, j, hj, y, hy, hs⟩ := hs
        cases hs
        exact mj_s_astI X hA hcm (Or.inr (Or.inl ⟨rfl, rfl, rfl⟩)) hd ha (Nat.le_of_ble_eq_true h3) hj hy kk
      next => cases hs
    next => cases hs
  case castore =>
    have hln : len = 1 := of_decide_eq_true hck
    subst hln
    split at hs
    next v i a r =>
      split at hs
      next h3 =>
        simp only [Option.bind_eq_some_iff, Option.map_eq_some_iff] at hs
        obtain ⟨⟨q, x⟩, ha, j, hj, y, hy, hs⟩ := hs
        cases hs
        exact mj_s_astI X hA hcm (Or.inr (Or.inr ⟨rfl, rfl, rfl⟩)) hd ha (Nat.le_of_ble_eq_true h3) hj hy kk
      next => cases hs
    next => cases hs
  case lastore =>
    have hln : len = 1 := of_decide_eq_true hck
    subst hln
    split at hs
    next v i a r =>
      split at hs
      next h3 =>
        simp only [Option.bind_eq_some_iff, Option.map_eq_some_iff] at hs
        obtain ⟨⟨q, x⟩, ha, j, hj, y, hy, hs⟩ := hs
        cases hs
        exact mj_s_astL X hA hcm hd ha (Nat.le_of_ble_eq_true h3) hj hy kk
      next => cases hs
    next => cases hs
  case new i =>
    have hln : len = 3 := of_decide_eq_true hck
    subst hln
    split at hs
    next ci =>
      split at hs
      next hb =>
        cases hs
        obtain ⟨hb1, hb2⟩ := Bool.and_eq_true_iff.mp hb
        exact mj_s_new X hA hcm hd (hrow ci rfl) (Nat.le_of_ble_eq_true hb1) (Nat.le_of_ble_eq_true hb2) kk
      next => cases hs
    next => cases hs
  case newarray t =>
    have hln : len = 2 := of_decide_eq_true hck
    subst hln
    split at hs
    next n r q hq =>
      split at hs
      next => cases hs
      next hn =>
        split at hs
        next hb =>
          cases hs
          simp only [Bool.and_eq_true] at hb
          obtain ⟨⟨hb1, hb2⟩, hb3⟩ := hb
          exact mj_s_newa X hA hcm hd hq hrow hn (Nat.le_of_ble_eq_true hb1) (Nat.le_of_ble_eq_true hb2) (Nat.le_of_ble_eq_true hb3) kk
        next => cases hs
    next => cases hs
  case invokespecial i =>
    have hln : len = 3 := of_decide_eq_true hck
    subst hln
    split at hs
    next a r =>
      split at hs
      next hb =>
        cases hs
        obtain ⟨hb1, hb2⟩ := Bool.and_eq_true_iff.mp hb
        obtain ⟨w1, w2, w3⟩ := hrow.2.1 rfl
        exact mj_s_obj X hd w1 w2 w3 (Nat.le_of_ble_eq_true hb1) (Nat.le_of_ble_eq_true hb2) kk
      next => cases hs
    next cx q a r =>
      split at hs
      next cc fs hb ha =>
        split at hs
        next hcc =>
          cases hs
          have hcc : cc = cx + 50 := Nat.eq_of_beq_eq_true hcc
          subst hcc
          simp only [Bool.and_eq_true] at hb
          obtain ⟨⟨hb1, hb2⟩, hb3⟩ := hb
          exact mj_s_exc X hA hcm htr hd (hrow.2.2 cx rfl) ha (Nat.le_of_ble_eq_true hb3) (Nat.le_of_ble_eq_true hb1) (Nat.le_of_ble_eq_true hb2) kk
        next => cases hs
      next => cases hs
    next => cases hs
  case iadd =>
    have hln : len = 1 := of_decide_eq_true hck
    subst hln
    split at hs
    next y x r =>
      cases hs
      exact mj_s_iadd X hd kk
    next => cases hs
    next => cases hs
    next => cases hs
  case isub =>
    have hln : len = 1 := of_decide_eq_true hck
    subst hln
    split at hs
    next y x r =>
      cases hs
      exact mj_s_isub X hd kk
    next => cases hs
    next => cases hs
    next => cases hs
  case imul =>
    have hln : len = 1 := of_decide_eq_true hck
    subst hln
    split at hs
    next y x r =>
      cases hs
      exact mj_s_imul X hd kk
    next => cases hs
    next => cases hs
    next => cases hs
  case iand =>
    have hln : len = 1 := of_decide_eq_true hck
    subst hln
    split at hs
    next y x r =>
      cases hs
      exact mj_s_iand X hd kk
    next => cases hs
    next => cases hs
    next => cases hs
  case ior =>
    have hln : len = 1 := of_decide_eq_true hck
    subst hln
    split at hs
    next y x r =>
      cases hs
      exact mj_s_ior X hd kk
    next => cases hs
    next => cases hs
    next => cases hs
  case ixor =>
    have hln : len = 1 := of_decide_eq_true hck
    subst hln
    split at hs
    next y x r =>
      cases hs
      exact mj_s_ixor X hd kk
    next => cases hs
    next => cases hs
    next => cases hs
  case ishl =>
    have hln : len = 1 := of_decide_eq_true hck
    subst hln
    split at hs
    next y x r =>
      cases hs
      exact mj_s_ishl X hd kk
    next => cases hs
    next => cases hs
    next => cases hs
  case ishr =>
    have hln : len = 1 := of_decide_eq_true hck
    subst hln
    split at hs
    next y x r =>
      cases hs
      exact mj_s_ishr X hd kk
    next => cases hs
    next => cases hs
    next => cases hs
  case idiv =>
    have hln : len = 1 := of_decide_eq_true hck
    subst hln
    split at hs
    next y x r =>
      by_cases hy : y = 0
      · simp [mj_bin, hy] at hs
      · simp only [mj_bin, if_neg hy] at hs
        cases hs
        exact mj_s_idiv X hy hd kk
    next => cases hs
    next => cases hs
    next => cases hs
  case irem =>
    have hln : len = 1 := of_decide_eq_true hck
    subst hln
    split at hs
    next y x r =>
      by_cases hy : y = 0
      · simp [mj_bin, hy] at hs
      · simp only [mj_bin, if_neg hy] at hs
        cases hs
        exact mj_s_irem X hy hd kk
    next => cases hs
    next => cases hs
    next => cases hs
  case ladd =>
    have hln : len = 1 := of_decide_eq_true hck
    subst hln
    split at hs
    next => cases hs
    next y x r =>
      cases hs
      exact mj_s_ladd X hd kk
    next => cases hs
    next => cases hs
  case lsub =>
    have hln : len = 1 := of_decide_eq_true hck
    subst hln
    split at hs
    next => cases hs
    next y x r =>
      cases hs
      exact mj_s_lsub X hd kk
    next => cases hs
    next => cases hs
  case lmul =>
    have hln : len = 1 := of_decide_eq_true hck
    subst hln
    split at hs
    next => cases hs
    next y x r =>
      cases hs
      exact mj_s_lmul X hd kk
    next => cases hs
    next => cases hs
  case land =>
    have hln : len = 1 := of_decide_eq_true hck
    subst hln
    split at hs
    next => cases hs
    next y x r =>
      cases hs
      exact mj_s_land X hd kk
    next => cases hs
    next => cases hs
  case lor =>
    have hln : len = 1 := of_decide_eq_true hck
    subst hln
    split at hs
    next => cases hs
    next y x r =>
      cases hs
      exact mj_s_lor X hd kk
    next => cases hs
    next => cases hs
  case lxor =>
    have hln : len = 1 := of_decide_eq_true hck
    subst hln
    split at hs
    next => cases hs
    next y x r =>
      cases hs
      exact mj_s_lxor X hd kk
    next => cases hs
    next => cases hs
  case lshl =>
    have hln : len = 1 := of_decide_eq_true hck
    subst hln
    split at hs
    next => cases hs
    next => cases hs
    next y x r =>
      cases hs
      exact mj_s_lshl X hd kk
    next => cases hs
  case lshr =>
    have hln : len = 1 := of_decide_eq_true hck
    subst hln
    split at hs
    next => cases hs
    next => cases hs
    next y x r =>
      cases hs
      exact mj_s_lshr X hd kk
    next => cases hs
  case lushr =>
    have hln : len = 1 := of_decide_eq_true hck
    subst hln
    split at hs
    next => cases hs
    next => cases hs
    next y x r =>
      cases hs
      exact mj_s_lushr X hd kk
    next => cases hs
  all_goals (exfalso; split at hs <;> cases hs)
end MJQ
