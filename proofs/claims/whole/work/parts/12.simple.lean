section MJS
variable {P : mj_P} {s0 : State} {D : va_G} {cl : List vw_C} {al : Nat → Nat} {cm sm c0 n0 k fr lo : Nat} {p : Program} {l : Launch} {e : Env} {R : Room} {s : State} {m : MethodId} {args : Array Value} {below : List Frame} {meth : Method} {c : Code} {o : mj_O} {h h' : mj_H} {pc : Nat} {lv : mj_L} {st r : List Value}
theorem mj_s_iconst (X : mj_Fr P s0 cm sm c0 n0 k fr lo p l e R s m meth c) {n : Int} (hd : decode (mj_by P k) pc = .ok (.iconst n, 1)) (kk : mj_W P s0 D cl al cm sm c0 n0 k p l e R s m args below meth c o h' (pc + 1, lv, .int (Int32.ofInt n) :: st) h) : mj_W P s0 D cl al cm sm c0 n0 k p l e R s m args below meth c o h' (pc, lv, st) h := by
  intro H locs cells slots ls hR hl hc hs hL
  exact lv_iconst X.1 X.2.1 hd rfl (kk H locs cells slots ls hR hl hc hs hL)
theorem mj_s_bipush (X : mj_Fr P s0 cm sm c0 n0 k fr lo p l e R s m meth c) {n : Int} (hd : decode (mj_by P k) pc = .ok (.bipush n, 2)) (kk : mj_W P s0 D cl al cm sm c0 n0 k p l e R s m args below meth c o h' (pc + 2, lv, .int (Int8.ofInt n).toInt32 :: st) h) : mj_W P s0 D cl al cm sm c0 n0 k p l e R s m args below meth c o h' (pc, lv, st) h := by
  intro H locs cells slots ls hR hl hc hs hL
  exact lv_bipush X.1 X.2.1 hd rfl (kk H locs cells slots ls hR hl hc hs hL)
theorem mj_s_sipush (X : mj_Fr P s0 cm sm c0 n0 k fr lo p l e R s m meth c) {n : Int} (hd : decode (mj_by P k) pc = .ok (.sipush n, 3)) (kk : mj_W P s0 D cl al cm sm c0 n0 k p l e R s m args below meth c o h' (pc + 3, lv, .int (Int16.ofInt n).toInt32 :: st) h) : mj_W P s0 D cl al cm sm c0 n0 k p l e R s m args below meth c o h' (pc, lv, st) h := by
  intro H locs cells slots ls hR hl hc hs hL
  exact lv_sipush X.1 X.2.1 hd rfl (kk H locs cells slots ls hR hl hc hs hL)
theorem mj_s_lconst (X : mj_Fr P s0 cm sm c0 n0 k fr lo p l e R s m meth c) {n : Fin 2} (hd : decode (mj_by P k) pc = .ok (.lconst n, 1)) (kk : mj_W P s0 D cl al cm sm c0 n0 k p l e R s m args below meth c o h' (pc + 1, lv, .long (Int64.ofNat n.val) :: st) h) : mj_W P s0 D cl al cm sm c0 n0 k p l e R s m args below meth c o h' (pc, lv, st) h := by
  intro H locs cells slots ls hR hl hc hs hL
  exact lv_lconst X.1 X.2.1 hd rfl (kk H locs cells slots ls hR hl hc hs hL)
theorem mj_s_iload_n (X : mj_Fr P s0 cm sm c0 n0 k fr lo p l e R s m meth c) {i : Fin 4} {x : Int32} (hx : mj_ld i.val lv = some (.int x)) (hd : decode (mj_by P k) pc = .ok (.iload_n i, 1)) (kk : mj_W P s0 D cl al cm sm c0 n0 k p l e R s m args below meth c o h' (pc + 1, lv, .int x :: st) h) : mj_W P s0 D cl al cm sm c0 n0 k p l e R s m args below meth c o h' (pc, lv, st) h := by
  intro H locs cells slots ls hR hl hc hs hL
  exact lv_iload_n X.1 X.2.1 hd rfl (mj_ld_at hL hx) (kk H locs cells slots ls hR hl hc hs hL)
theorem mj_s_iload (X : mj_Fr P s0 cm sm c0 n0 k fr lo p l e R s m meth c) {i : Nat} {x : Int32} (hx : mj_ld i lv = some (.int x)) (hd : decode (mj_by P k) pc = .ok (.iload i, 2)) (kk : mj_W P s0 D cl al cm sm c0 n0 k p l e R s m args below meth c o h' (pc + 2, lv, .int x :: st) h) : mj_W P s0 D cl al cm sm c0 n0 k p l e R s m args below meth c o h' (pc, lv, st) h := by
  intro H locs cells slots ls hR hl hc hs hL
  exact lv_iload X.1 X.2.1 hd (mj_ld_at hL hx) (kk H locs cells slots ls hR hl hc hs hL)
theorem mj_s_istore_n (X : mj_Fr P s0 cm sm c0 n0 k fr lo p l e R s m meth c) {i : Fin 4} {x : Int32} (hn : i.val < mj_ml P k) (hd : decode (mj_by P k) pc = .ok (.istore_n i, 1)) (kk : mj_W P s0 D cl al cm sm c0 n0 k p l e R s m args below meth c o h' (pc + 1, mj_st1 i.val (.int x) lv, r) h) : mj_W P s0 D cl al cm sm c0 n0 k p l e R s m args below meth c o h' (pc, lv, .int x :: r) h := by
  intro H locs cells slots ls hR hl hc hs hL
  exact lv_istore_n X.1 X.2.1 hd rfl hL hn rfl fun ls1 h1 => kk H locs cells slots ls1 hR hl hc hs (mj_st1_has h1)
theorem mj_s_istore (X : mj_Fr P s0 cm sm c0 n0 k fr lo p l e R s m meth c) {i : Nat} {x : Int32} (hn : i < mj_ml P k) (hd : decode (mj_by P k) pc = .ok (.istore i, 2)) (kk : mj_W P s0 D cl al cm sm c0 n0 k p l e R s m args below meth c o h' (pc + 2, mj_st1 i (.int x) lv, r) h) : mj_W P s0 D cl al cm sm c0 n0 k p l e R s m args below meth c o h' (pc, lv, .int x :: r) h := by
  intro H locs cells slots ls hR hl hc hs hL
  exact lv_istore X.1 X.2.1 hd hL hn rfl fun ls1 h1 => kk H locs cells slots ls1 hR hl hc hs (mj_st1_has h1)
theorem mj_s_lload_n (X : mj_Fr P s0 cm sm c0 n0 k fr lo p l e R s m meth c) {i : Fin 4} {x : Int64} (hx : mj_ld i.val lv = some (.long x)) (hd : decode (mj_by P k) pc = .ok (.lload_n i, 1)) (kk : mj_W P s0 D cl al cm sm c0 n0 k p l e R s m args below meth c o h' (pc + 1, lv, .long x :: st) h) : mj_W P s0 D cl al cm sm c0 n0 k p l e R s m args below meth c o h' (pc, lv, st) h := by
  intro H locs cells slots ls hR hl hc hs hL
  exact lv_lload_n X.1 X.2.1 hd rfl (mj_ld_at hL hx) (kk H locs cells slots ls hR hl hc hs hL)
theorem mj_s_lload (X : mj_Fr P s0 cm sm c0 n0 k fr lo p l e R s m meth c) {i : Nat} {x : Int64} (hx : mj_ld i lv = some (.long x)) (hd : decode (mj_by P k) pc = .ok (.lload i, 2)) (kk : mj_W P s0 D cl al cm sm c0 n0 k p l e R s m args below meth c o h' (pc + 2, lv, .long x :: st) h) : mj_W P s0 D cl al cm sm c0 n0 k p l e R s m args below meth c o h' (pc, lv, st) h := by
  intro H locs cells slots ls hR hl hc hs hL
  exact lv_lload X.1 X.2.1 hd (mj_ld_at hL hx) (kk H locs cells slots ls hR hl hc hs hL)
theorem mj_s_lstore_n (X : mj_Fr P s0 cm sm c0 n0 k fr lo p l e R s m meth c) {i : Fin 4} {x : Int64} (hn : i.val + 1 < mj_ml P k) (hd : decode (mj_by P k) pc = .ok (.lstore_n i, 1)) (kk : mj_W P s0 D cl al cm sm c0 n0 k p l e R s m args below meth c o h' (pc + 1, mj_st2 i.val (.long x) lv, r) h) : mj_W P s0 D cl al cm sm c0 n0 k p l e R s m args below meth c o h' (pc, lv, .long x :: r) h := by
  intro H locs cells slots ls hR hl hc hs hL
  exact lv_lstore_n X.1 X.2.1 hd rfl hL hn rfl fun ls1 h1 => kk H locs cells slots ls1 hR hl hc hs (mj_st2_has h1)
theorem mj_s_lstore (X : mj_Fr P s0 cm sm c0 n0 k fr lo p l e R s m meth c) {i : Nat} {x : Int64} (hn : i + 1 < mj_ml P k) (hd : decode (mj_by P k) pc = .ok (.lstore i, 2)) (kk : mj_W P s0 D cl al cm sm c0 n0 k p l e R s m args below meth c o h' (pc + 2, mj_st2 i (.long x) lv, r) h) : mj_W P s0 D cl al cm sm c0 n0 k p l e R s m args below meth c o h' (pc, lv, .long x :: r) h := by
  intro H locs cells slots ls hR hl hc hs hL
  exact lv_lstore X.1 X.2.1 hd hL hn rfl fun ls1 h1 => kk H locs cells slots ls1 hR hl hc hs (mj_st2_has h1)
theorem mj_s_aload_n (X : mj_Fr P s0 cm sm c0 n0 k fr lo p l e R s m meth c) {i : Fin 4} {x : Nat} (hx : mj_ld i.val lv = some (.ref x)) (hd : decode (mj_by P k) pc = .ok (.aload_n i, 1)) (kk : mj_W P s0 D cl al cm sm c0 n0 k p l e R s m args below meth c o h' (pc + 1, lv, .ref x :: st) h) : mj_W P s0 D cl al cm sm c0 n0 k p l e R s m args below meth c o h' (pc, lv, st) h := by
  intro H locs cells slots ls hR hl hc hs hL
  exact lv_aload_n X.1 X.2.1 hd rfl (mj_ld_at hL hx) (kk H locs cells slots ls hR hl hc hs hL)
theorem mj_s_aload (X : mj_Fr P s0 cm sm c0 n0 k fr lo p l e R s m meth c) {i : Nat} {x : Nat} (hx : mj_ld i lv = some (.ref x)) (hd : decode (mj_by P k) pc = .ok (.aload i, 2)) (kk : mj_W P s0 D cl al cm sm c0 n0 k p l e R s m args below meth c o h' (pc + 2, lv, .ref x :: st) h) : mj_W P s0 D cl al cm sm c0 n0 k p l e R s m args below meth c o h' (pc, lv, st) h := by
  intro H locs cells slots ls hR hl hc hs hL
  exact lv_aload X.1 X.2.1 hd (mj_ld_at hL hx) (kk H locs cells slots ls hR hl hc hs hL)
theorem mj_s_astore_n (X : mj_Fr P s0 cm sm c0 n0 k fr lo p l e R s m meth c) {i : Fin 4} {x : Nat} (hn : i.val < mj_ml P k) (hd : decode (mj_by P k) pc = .ok (.astore_n i, 1)) (kk : mj_W P s0 D cl al cm sm c0 n0 k p l e R s m args below meth c o h' (pc + 1, mj_st1 i.val (.ref x) lv, r) h) : mj_W P s0 D cl al cm sm c0 n0 k p l e R s m args below meth c o h' (pc, lv, .ref x :: r) h := by
  intro H locs cells slots ls hR hl hc hs hL
  exact lv_astore_n X.1 X.2.1 hd rfl hL hn rfl fun ls1 h1 => kk H locs cells slots ls1 hR hl hc hs (mj_st1_has h1)
theorem mj_s_astore (X : mj_Fr P s0 cm sm c0 n0 k fr lo p l e R s m meth c) {i : Nat} {x : Nat} (hn : i < mj_ml P k) (hd : decode (mj_by P k) pc = .ok (.astore i, 2)) (kk : mj_W P s0 D cl al cm sm c0 n0 k p l e R s m args below meth c o h' (pc + 2, mj_st1 i (.ref x) lv, r) h) : mj_W P s0 D cl al cm sm c0 n0 k p l e R s m args below meth c o h' (pc, lv, .ref x :: r) h := by
  intro H locs cells slots ls hR hl hc hs hL
  exact lv_astore X.1 X.2.1 hd hL hn rfl fun ls1 h1 => kk H locs cells slots ls1 hR hl hc hs (mj_st1_has h1)
theorem mj_s_iinc (X : mj_Fr P s0 cm sm c0 n0 k fr lo p l e R s m meth c) {i : Nat} {n : Int} {x : Int32} (hx : mj_ld i lv = some (.int x)) (hn : i < mj_ml P k) (hd : decode (mj_by P k) pc = .ok (.iinc i n, 3)) (kk : mj_W P s0 D cl al cm sm c0 n0 k p l e R s m args below meth c o h' (pc + 3, mj_st1 i (.int (x + Int32.ofInt n)) lv, st) h) : mj_W P s0 D cl al cm sm c0 n0 k p l e R s m args below meth c o h' (pc, lv, st) h := by
  intro H locs cells slots ls hR hl hc hs hL
  obtain ⟨q, hq⟩ := List.getElem?_of_mem (List.mem_map.mpr ⟨(i, Value.int x), mj_ld_mem hx, rfl⟩ : (i, mj_lf al (.int x)) ∈ mj_ll al lv)
  exact lv_iinc X.1 X.2.1 hd hL hq rfl hn rfl fun ls1 h1 => kk H locs cells slots ls1 hR hl hc hs (mj_st1_has h1)
theorem mj_s_iadd (X : mj_Fr P s0 cm sm c0 n0 k fr lo p l e R s m meth c) {x y : Int32} (hd : decode (mj_by P k) pc = .ok (.iadd, 1)) (kk : mj_W P s0 D cl al cm sm c0 n0 k p l e R s m args below meth c o h' (pc + 1, lv, .int (x + y) :: r) h) : mj_W P s0 D cl al cm sm c0 n0 k p l e R s m args below meth c o h' (pc, lv, .int y :: .int x :: r) h := by
  intro H locs cells slots ls hR hl hc hs hL
  exact lv_iadd X.1 X.2.1 hd (kk H locs cells slots ls hR hl hc hs hL)
theorem mj_s_isub (X : mj_Fr P s0 cm sm c0 n0 k fr lo p l e R s m meth c) {x y : Int32} (hd : decode (mj_by P k) pc = .ok (.isub, 1)) (kk : mj_W P s0 D cl al cm sm c0 n0 k p l e R s m args below meth c o h' (pc + 1, lv, .int (x - y) :: r) h) : mj_W P s0 D cl al cm sm c0 n0 k p l e R s m args below meth c o h' (pc, lv, .int y :: .int x :: r) h := by
  intro H locs cells slots ls hR hl hc hs hL
  exact lv_isub X.1 X.2.1 hd (kk H locs cells slots ls hR hl hc hs hL)
theorem mj_s_imul (X : mj_Fr P s0 cm sm c0 n0 k fr lo p l e R s m meth c) {x y : Int32} (hd : decode (mj_by P k) pc = .ok (.imul, 1)) (kk : mj_W P s0 D cl al cm sm c0 n0 k p l e R s m args below meth c o h' (pc + 1, lv, .int (x * y) :: r) h) : mj_W P s0 D cl al cm sm c0 n0 k p l e R s m args below meth c o h' (pc, lv, .int y :: .int x :: r) h := by
  intro H locs cells slots ls hR hl hc hs hL
  exact lv_imul X.1 X.2.1 hd (kk H locs cells slots ls hR hl hc hs hL)
theorem mj_s_iand (X : mj_Fr P s0 cm sm c0 n0 k fr lo p l e R s m meth c) {x y : Int32} (hd : decode (mj_by P k) pc = .ok (.iand, 1)) (kk : mj_W P s0 D cl al cm sm c0 n0 k p l e R s m args below meth c o h' (pc + 1, lv, .int (x &&& y) :: r) h) : mj_W P s0 D cl al cm sm c0 n0 k p l e R s m args below meth c o h' (pc, lv, .int y :: .int x :: r) h := by
  intro H locs cells slots ls hR hl hc hs hL
  exact lv_iand X.1 X.2.1 hd (kk H locs cells slots ls hR hl hc hs hL)
theorem mj_s_ior (X : mj_Fr P s0 cm sm c0 n0 k fr lo p l e R s m meth c) {x y : Int32} (hd : decode (mj_by P k) pc = .ok (.ior, 1)) (kk : mj_W P s0 D cl al cm sm c0 n0 k p l e R s m args below meth c o h' (pc + 1, lv, .int (x ||| y) :: r) h) : mj_W P s0 D cl al cm sm c0 n0 k p l e R s m args below meth c o h' (pc, lv, .int y :: .int x :: r) h := by
  intro H locs cells slots ls hR hl hc hs hL
  exact lv_ior X.1 X.2.1 hd (kk H locs cells slots ls hR hl hc hs hL)
theorem mj_s_ixor (X : mj_Fr P s0 cm sm c0 n0 k fr lo p l e R s m meth c) {x y : Int32} (hd : decode (mj_by P k) pc = .ok (.ixor, 1)) (kk : mj_W P s0 D cl al cm sm c0 n0 k p l e R s m args below meth c o h' (pc + 1, lv, .int (x ^^^ y) :: r) h) : mj_W P s0 D cl al cm sm c0 n0 k p l e R s m args below meth c o h' (pc, lv, .int y :: .int x :: r) h := by
  intro H locs cells slots ls hR hl hc hs hL
  exact lv_ixor X.1 X.2.1 hd (kk H locs cells slots ls hR hl hc hs hL)
theorem mj_s_ishl (X : mj_Fr P s0 cm sm c0 n0 k fr lo p l e R s m meth c) {x y : Int32} (hd : decode (mj_by P k) pc = .ok (.ishl, 1)) (kk : mj_W P s0 D cl al cm sm c0 n0 k p l e R s m args below meth c o h' (pc + 1, lv, .int (x <<< (y &&& 31)) :: r) h) : mj_W P s0 D cl al cm sm c0 n0 k p l e R s m args below meth c o h' (pc, lv, .int y :: .int x :: r) h := by
  intro H locs cells slots ls hR hl hc hs hL
  exact lv_ishl X.1 X.2.1 hd (kk H locs cells slots ls hR hl hc hs hL)
theorem mj_s_ishr (X : mj_Fr P s0 cm sm c0 n0 k fr lo p l e R s m meth c) {x y : Int32} (hd : decode (mj_by P k) pc = .ok (.ishr, 1)) (kk : mj_W P s0 D cl al cm sm c0 n0 k p l e R s m args below meth c o h' (pc + 1, lv, .int (x >>> (y &&& 31)) :: r) h) : mj_W P s0 D cl al cm sm c0 n0 k p l e R s m args below meth c o h' (pc, lv, .int y :: .int x :: r) h := by
  intro H locs cells slots ls hR hl hc hs hL
  exact lv_ishr X.1 X.2.1 hd (kk H locs cells slots ls hR hl hc hs hL)
theorem mj_s_idiv (X : mj_Fr P s0 cm sm c0 n0 k fr lo p l e R s m meth c) {x y : Int32} (hne : ¬ y = 0) (hd : decode (mj_by P k) pc = .ok (.idiv, 1)) (kk : mj_W P s0 D cl al cm sm c0 n0 k p l e R s m args below meth c o h' (pc + 1, lv, .int (x / y) :: r) h) : mj_W P s0 D cl al cm sm c0 n0 k p l e R s m args below meth c o h' (pc, lv, .int y :: .int x :: r) h := by
  intro H locs cells slots ls hR hl hc hs hL
  exact lv_idiv X.1 X.2.1 hd hne (kk H locs cells slots ls hR hl hc hs hL)
theorem mj_s_irem (X : mj_Fr P s0 cm sm c0 n0 k fr lo p l e R s m meth c) {x y : Int32} (hne : ¬ y = 0) (hd : decode (mj_by P k) pc = .ok (.irem, 1)) (kk : mj_W P s0 D cl al cm sm c0 n0 k p l e R s m args below meth c o h' (pc + 1, lv, .int (x % y) :: r) h) : mj_W P s0 D cl al cm sm c0 n0 k p l e R s m args below meth c o h' (pc, lv, .int y :: .int x :: r) h := by
  intro H locs cells slots ls hR hl hc hs hL
  exact lv_irem X.1 X.2.1 hd hne (by rw [irem_eq_mod]; exact kk H locs cells slots ls hR hl hc hs hL)
theorem mj_s_ladd (X : mj_Fr P s0 cm sm c0 n0 k fr lo p l e R s m meth c) {x y : Int64} (hd : decode (mj_by P k) pc = .ok (.ladd, 1)) (kk : mj_W P s0 D cl al cm sm c0 n0 k p l e R s m args below meth c o h' (pc + 1, lv, .long (x + y) :: r) h) : mj_W P s0 D cl al cm sm c0 n0 k p l e R s m args below meth c o h' (pc, lv, .long y :: .long x :: r) h := by
  intro H locs cells slots ls hR hl hc hs hL
  exact lv_ladd X.1 X.2.1 hd (kk H locs cells slots ls hR hl hc hs hL)
theorem mj_s_lsub (X : mj_Fr P s0 cm sm c0 n0 k fr lo p l e R s m meth c) {x y : Int64} (hd : decode (mj_by P k) pc = .ok (.lsub, 1)) (kk : mj_W P s0 D cl al cm sm c0 n0 k p l e R s m args below meth c o h' (pc + 1, lv, .long (x - y) :: r) h) : mj_W P s0 D cl al cm sm c0 n0 k p l e R s m args below meth c o h' (pc, lv, .long y :: .long x :: r) h := by
  intro H locs cells slots ls hR hl hc hs hL
  exact lv_lsub X.1 X.2.1 hd (kk H locs cells slots ls hR hl hc hs hL)
theorem mj_s_lmul (X : mj_Fr P s0 cm sm c0 n0 k fr lo p l e R s m meth c) {x y : Int64} (hd : decode (mj_by P k) pc = .ok (.lmul, 1)) (kk : mj_W P s0 D cl al cm sm c0 n0 k p l e R s m args below meth c o h' (pc + 1, lv, .long (x * y) :: r) h) : mj_W P s0 D cl al cm sm c0 n0 k p l e R s m args below meth c o h' (pc, lv, .long y :: .long x :: r) h := by
  intro H locs cells slots ls hR hl hc hs hL
  exact lv_lmul X.1 X.2.1 hd (kk H locs cells slots ls hR hl hc hs hL)
theorem mj_s_land (X : mj_Fr P s0 cm sm c0 n0 k fr lo p l e R s m meth c) {x y : Int64} (hd : decode (mj_by P k) pc = .ok (.land, 1)) (kk : mj_W P s0 D cl al cm sm c0 n0 k p l e R s m args below meth c o h' (pc + 1, lv, .long (x &&& y) :: r) h) : mj_W P s0 D cl al cm sm c0 n0 k p l e R s m args below meth c o h' (pc, lv, .long y :: .long x :: r) h := by
  intro H locs cells slots ls hR hl hc hs hL
  exact lv_land X.1 X.2.1 hd (kk H locs cells slots ls hR hl hc hs hL)
theorem mj_s_lor (X : mj_Fr P s0 cm sm c0 n0 k fr lo p l e R s m meth c) {x y : Int64} (hd : decode (mj_by P k) pc = .ok (.lor, 1)) (kk : mj_W P s0 D cl al cm sm c0 n0 k p l e R s m args below meth c o h' (pc + 1, lv, .long (x ||| y) :: r) h) : mj_W P s0 D cl al cm sm c0 n0 k p l e R s m args below meth c o h' (pc, lv, .long y :: .long x :: r) h := by
  intro H locs cells slots ls hR hl hc hs hL
  exact lv_lor X.1 X.2.1 hd (kk H locs cells slots ls hR hl hc hs hL)
theorem mj_s_lxor (X : mj_Fr P s0 cm sm c0 n0 k fr lo p l e R s m meth c) {x y : Int64} (hd : decode (mj_by P k) pc = .ok (.lxor, 1)) (kk : mj_W P s0 D cl al cm sm c0 n0 k p l e R s m args below meth c o h' (pc + 1, lv, .long (x ^^^ y) :: r) h) : mj_W P s0 D cl al cm sm c0 n0 k p l e R s m args below meth c o h' (pc, lv, .long y :: .long x :: r) h := by
  intro H locs cells slots ls hR hl hc hs hL
  exact lv_lxor X.1 X.2.1 hd (kk H locs cells slots ls hR hl hc hs hL)
theorem mj_s_lshl (X : mj_Fr P s0 cm sm c0 n0 k fr lo p l e R s m meth c) {x : Int64} {y : Int32} (hd : decode (mj_by P k) pc = .ok (.lshl, 1)) (kk : mj_W P s0 D cl al cm sm c0 n0 k p l e R s m args below meth c o h' (pc + 1, lv, .long (x <<< (y.toInt64 &&& 63)) :: r) h) : mj_W P s0 D cl al cm sm c0 n0 k p l e R s m args below meth c o h' (pc, lv, .int y :: .long x :: r) h := by
  intro H locs cells slots ls hR hl hc hs hL
  exact lv_lshl X.1 X.2.1 hd rfl (kk H locs cells slots ls hR hl hc hs hL)
theorem mj_s_lshr (X : mj_Fr P s0 cm sm c0 n0 k fr lo p l e R s m meth c) {x : Int64} {y : Int32} (hd : decode (mj_by P k) pc = .ok (.lshr, 1)) (kk : mj_W P s0 D cl al cm sm c0 n0 k p l e R s m args below meth c o h' (pc + 1, lv, .long (x >>> (y.toInt64 &&& 63)) :: r) h) : mj_W P s0 D cl al cm sm c0 n0 k p l e R s m args below meth c o h' (pc, lv, .int y :: .long x :: r) h := by
  intro H locs cells slots ls hR hl hc hs hL
  exact lv_lshr X.1 X.2.1 hd rfl (kk H locs cells slots ls hR hl hc hs hL)
theorem mj_s_lushr (X : mj_Fr P s0 cm sm c0 n0 k fr lo p l e R s m meth c) {x : Int64} {y : Int32} (hd : decode (mj_by P k) pc = .ok (.lushr, 1)) (kk : mj_W P s0 D cl al cm sm c0 n0 k p l e R s m args below meth c o h' (pc + 1, lv, .long ((x.toUInt64 >>> (y.toInt64.toUInt64 &&& Int64.toUInt64 63)).toInt64) :: r) h) : mj_W P s0 D cl al cm sm c0 n0 k p l e R s m args below meth c o h' (pc, lv, .int y :: .long x :: r) h := by
  intro H locs cells slots ls hR hl hc hs hL
  exact lv_lushr X.1 X.2.1 hd rfl (kk H locs cells slots ls hR hl hc hs hL)
theorem mj_s_lcmp (X : mj_Fr P s0 cm sm c0 n0 k fr lo p l e R s m meth c) {x y : Int64} (hd : decode (mj_by P k) pc = .ok (.lcmp, 1)) (kk : mj_W P s0 D cl al cm sm c0 n0 k p l e R s m args below meth c o h' (pc + 1, lv, .int (lg_cmp x y) :: r) h) : mj_W P s0 D cl al cm sm c0 n0 k p l e R s m args below meth c o h' (pc, lv, .long y :: .long x :: r) h := by
  intro H locs cells slots ls hR hl hc hs hL
  exact W.lcmp X.1 X.2.1 hd (kk H locs cells slots ls hR hl hc hs hL)
theorem mj_s_ineg (X : mj_Fr P s0 cm sm c0 n0 k fr lo p l e R s m meth c) {x : Int32} (hd : decode (mj_by P k) pc = .ok (.ineg, 1)) (kk : mj_W P s0 D cl al cm sm c0 n0 k p l e R s m args below meth c o h' (pc + 1, lv, .int (-x) :: r) h) : mj_W P s0 D cl al cm sm c0 n0 k p l e R s m args below meth c o h' (pc, lv, .int x :: r) h := by
  intro H locs cells slots ls hR hl hc hs hL
  exact lv_ineg X.1 X.2.1 hd (kk H locs cells slots ls hR hl hc hs hL)
theorem mj_s_i2l (X : mj_Fr P s0 cm sm c0 n0 k fr lo p l e R s m meth c) {x : Int32} (hd : decode (mj_by P k) pc = .ok (.i2l, 1)) (kk : mj_W P s0 D cl al cm sm c0 n0 k p l e R s m args below meth c o h' (pc + 1, lv, .long x.toInt64 :: r) h) : mj_W P s0 D cl al cm sm c0 n0 k p l e R s m args below meth c o h' (pc, lv, .int x :: r) h := by
  intro H locs cells slots ls hR hl hc hs hL
  exact lv_i2l X.1 X.2.1 hd rfl (kk H locs cells slots ls hR hl hc hs hL)
theorem mj_s_l2i (X : mj_Fr P s0 cm sm c0 n0 k fr lo p l e R s m meth c) {x : Int64} (hd : decode (mj_by P k) pc = .ok (.l2i, 1)) (kk : mj_W P s0 D cl al cm sm c0 n0 k p l e R s m args below meth c o h' (pc + 1, lv, .int x.toInt32 :: r) h) : mj_W P s0 D cl al cm sm c0 n0 k p l e R s m args below meth c o h' (pc, lv, .long x :: r) h := by
  intro H locs cells slots ls hR hl hc hs hL
  exact lv_l2i X.1 X.2.1 hd rfl (kk H locs cells slots ls hR hl hc hs hL)
theorem mj_s_i2b (X : mj_Fr P s0 cm sm c0 n0 k fr lo p l e R s m meth c) {x : Int32} (hd : decode (mj_by P k) pc = .ok (.i2b, 1)) (kk : mj_W P s0 D cl al cm sm c0 n0 k p l e R s m args below meth c o h' (pc + 1, lv, .int x.toInt8.toInt32 :: r) h) : mj_W P s0 D cl al cm sm c0 n0 k p l e R s m args below meth c o h' (pc, lv, .int x :: r) h := by
  intro H locs cells slots ls hR hl hc hs hL
  exact lv_i2b X.1 X.2.1 hd rfl (kk H locs cells slots ls hR hl hc hs hL)
theorem mj_s_i2c (X : mj_Fr P s0 cm sm c0 n0 k fr lo p l e R s m meth c) {x : Int32} (hd : decode (mj_by P k) pc = .ok (.i2c, 1)) (kk : mj_W P s0 D cl al cm sm c0 n0 k p l e R s m args below meth c o h' (pc + 1, lv, .int (x.toUInt32 % 65536).toInt32 :: r) h) : mj_W P s0 D cl al cm sm c0 n0 k p l e R s m args below meth c o h' (pc, lv, .int x :: r) h := by
  intro H locs cells slots ls hR hl hc hs hL
  exact lv_i2c X.1 X.2.1 hd rfl (kk H locs cells slots ls hR hl hc hs hL)
theorem mj_s_dup (X : mj_Fr P s0 cm sm c0 n0 k fr lo p l e R s m meth c) {v : Value} (hv : v.category = 1) (hd : decode (mj_by P k) pc = .ok (.dup, 1)) (kk : mj_W P s0 D cl al cm sm c0 n0 k p l e R s m args below meth c o h' (pc + 1, lv, v :: v :: r) h) : mj_W P s0 D cl al cm sm c0 n0 k p l e R s m args below meth c o h' (pc, lv, v :: r) h := by
  intro H locs cells slots ls hR hl hc hs hL
  exact lv_dup X.1 X.2.1 hd (by rw [mj_cat]; exact hv) (kk H locs cells slots ls hR hl hc hs hL)
theorem mj_s_pop (X : mj_Fr P s0 cm sm c0 n0 k fr lo p l e R s m meth c) {v : Value} (hv : v.category = 1) (hd : decode (mj_by P k) pc = .ok (.pop, 1)) (kk : mj_W P s0 D cl al cm sm c0 n0 k p l e R s m args below meth c o h' (pc + 1, lv, r) h) : mj_W P s0 D cl al cm sm c0 n0 k p l e R s m args below meth c o h' (pc, lv, v :: r) h := by
  intro H locs cells slots ls hR hl hc hs hL
  exact lv_pop X.1 X.2.1 hd (by rw [mj_cat]; exact hv) (kk H locs cells slots ls hR hl hc hs hL)
theorem mj_s_dup_x1 (X : mj_Fr P s0 cm sm c0 n0 k fr lo p l e R s m meth c) {v w : Value} (hv : v.category = 1) (hw : w.category = 1) (hd : decode (mj_by P k) pc = .ok (.dup_x1, 1)) (kk : mj_W P s0 D cl al cm sm c0 n0 k p l e R s m args below meth c o h' (pc + 1, lv, v :: w :: v :: r) h) : mj_W P s0 D cl al cm sm c0 n0 k p l e R s m args below meth c o h' (pc, lv, v :: w :: r) h := by
  intro H locs cells slots ls hR hl hc hs hL
  exact lv_dup_x1 X.1 X.2.1 hd (by rw [mj_cat]; exact hv) (by rw [mj_cat]; exact hw) (kk H locs cells slots ls hR hl hc hs hL)
theorem mj_s_dup2 (X : mj_Fr P s0 cm sm c0 n0 k fr lo p l e R s m meth c) {v w : Value} (hv : v.category = 1) (hw : w.category = 1) (hd : decode (mj_by P k) pc = .ok (.dup2, 1)) (kk : mj_W P s0 D cl al cm sm c0 n0 k p l e R s m args below meth c o h' (pc + 1, lv, v :: w :: v :: w :: r) h) : mj_W P s0 D cl al cm sm c0 n0 k p l e R s m args below meth c o h' (pc, lv, v :: w :: r) h := by
  intro H locs cells slots ls hR hl hc hs hL
  exact lv_dup2_11 X.1 X.2.1 hd (by rw [mj_cat]; exact hv) (by rw [mj_cat]; exact hw) (kk H locs cells slots ls hR hl hc hs hL)
theorem mj_s_goto (X : mj_Fr P s0 cm sm c0 n0 k fr lo p l e R s m meth c) {off : Int} {t : Nat} (ht : (pc : Int) + off = (t : Int)) (hd : decode (mj_by P k) pc = .ok (.goto off, 3)) (kk : mj_W P s0 D cl al cm sm c0 n0 k p l e R s m args below meth c o h' (t, lv, st) h) : mj_W P s0 D cl al cm sm c0 n0 k p l e R s m args below meth c o h' (pc, lv, st) h := by
  intro H locs cells slots ls hR hl hc hs hL
  exact lv_goto X.1 X.2.1 hd ht (kk H locs cells slots ls hR hl hc hs hL)
theorem mj_s_if_eq (X : mj_Fr P s0 cm sm c0 n0 k fr lo p l e R s m meth c) {x : Int32} {off : Int} {t : Nat} (hd : decode (mj_by P k) pc = .ok (.ifCond .eq off, 3)) (ht : (pc : Int) + off = (t : Int)) (kt : mj_cmp .eq x 0 = true → mj_W P s0 D cl al cm sm c0 n0 k p l e R s m args below meth c o h' (t, lv, r) h) (kf : mj_cmp .eq x 0 = false → mj_W P s0 D cl al cm sm c0 n0 k p l e R s m args below meth c o h' (pc + 3, lv, r) h) : mj_W P s0 D cl al cm sm c0 n0 k p l e R s m args below meth c o h' (pc, lv, .int x :: r) h := by
  intro H locs cells slots ls hR hl hc hs hL
  exact lv_if_eq X.1 X.2.1 hd ht (fun q => kt (decide_eq_true q) H locs cells slots ls hR hl hc hs hL) (fun q => kf (decide_eq_false q) H locs cells slots ls hR hl hc hs hL)
theorem mj_s_icmp_eq (X : mj_Fr P s0 cm sm c0 n0 k fr lo p l e R s m meth c) {x y : Int32} {off : Int} {t : Nat} (hd : decode (mj_by P k) pc = .ok (.if_icmp .eq off, 3)) (ht : (pc : Int) + off = (t : Int)) (kt : mj_cmp .eq x y = true → mj_W P s0 D cl al cm sm c0 n0 k p l e R s m args below meth c o h' (t, lv, r) h) (kf : mj_cmp .eq x y = false → mj_W P s0 D cl al cm sm c0 n0 k p l e R s m args below meth c o h' (pc + 3, lv, r) h) : mj_W P s0 D cl al cm sm c0 n0 k p l e R s m args below meth c o h' (pc, lv, .int y :: .int x :: r) h := by
  intro H locs cells slots ls hR hl hc hs hL
  exact lv_icmp_eq X.1 X.2.1 hd ht (fun q => kt (decide_eq_true q) H locs cells slots ls hR hl hc hs hL) (fun q => kf (decide_eq_false q) H locs cells slots ls hR hl hc hs hL)
theorem mj_s_if_ne (X : mj_Fr P s0 cm sm c0 n0 k fr lo p l e R s m meth c) {x : Int32} {off : Int} {t : Nat} (hd : decode (mj_by P k) pc = .ok (.ifCond .ne off, 3)) (ht : (pc : Int) + off = (t : Int)) (kt : mj_cmp .ne x 0 = true → mj_W P s0 D cl al cm sm c0 n0 k p l e R s m args below meth c o h' (t, lv, r) h) (kf : mj_cmp .ne x 0 = false → mj_W P s0 D cl al cm sm c0 n0 k p l e R s m args below meth c o h' (pc + 3, lv, r) h) : mj_W P s0 D cl al cm sm c0 n0 k p l e R s m args below meth c o h' (pc, lv, .int x :: r) h := by
  intro H locs cells slots ls hR hl hc hs hL
  exact lv_if_ne X.1 X.2.1 hd ht (fun q => kt (decide_eq_true q) H locs cells slots ls hR hl hc hs hL) (fun q => kf (decide_eq_false (fun z => z q)) H locs cells slots ls hR hl hc hs hL)
theorem mj_s_icmp_ne (X : mj_Fr P s0 cm sm c0 n0 k fr lo p l e R s m meth c) {x y : Int32} {off : Int} {t : Nat} (hd : decode (mj_by P k) pc = .ok (.if_icmp .ne off, 3)) (ht : (pc : Int) + off = (t : Int)) (kt : mj_cmp .ne x y = true → mj_W P s0 D cl al cm sm c0 n0 k p l e R s m args below meth c o h' (t, lv, r) h) (kf : mj_cmp .ne x y = false → mj_W P s0 D cl al cm sm c0 n0 k p l e R s m args below meth c o h' (pc + 3, lv, r) h) : mj_W P s0 D cl al cm sm c0 n0 k p l e R s m args below meth c o h' (pc, lv, .int y :: .int x :: r) h := by
  intro H locs cells slots ls hR hl hc hs hL
  exact lv_icmp_ne X.1 X.2.1 hd ht (fun q => kt (decide_eq_true q) H locs cells slots ls hR hl hc hs hL) (fun q => kf (decide_eq_false (fun z => z q)) H locs cells slots ls hR hl hc hs hL)
theorem mj_s_if_lt (X : mj_Fr P s0 cm sm c0 n0 k fr lo p l e R s m meth c) {x : Int32} {off : Int} {t : Nat} (hd : decode (mj_by P k) pc = .ok (.ifCond .lt off, 3)) (ht : (pc : Int) + off = (t : Int)) (kt : mj_cmp .lt x 0 = true → mj_W P s0 D cl al cm sm c0 n0 k p l e R s m args below meth c o h' (t, lv, r) h) (kf : mj_cmp .lt x 0 = false → mj_W P s0 D cl al cm sm c0 n0 k p l e R s m args below meth c o h' (pc + 3, lv, r) h) : mj_W P s0 D cl al cm sm c0 n0 k p l e R s m args below meth c o h' (pc, lv, .int x :: r) h := by
  intro H locs cells slots ls hR hl hc hs hL
  exact lv_if_lt X.1 X.2.1 hd ht (fun q => kt (decide_eq_true q) H locs cells slots ls hR hl hc hs hL) (fun q => kf (decide_eq_false q) H locs cells slots ls hR hl hc hs hL)
theorem mj_s_icmp_lt (X : mj_Fr P s0 cm sm c0 n0 k fr lo p l e R s m meth c) {x y : Int32} {off : Int} {t : Nat} (hd : decode (mj_by P k) pc = .ok (.if_icmp .lt off, 3)) (ht : (pc : Int) + off = (t : Int)) (kt : mj_cmp .lt x y = true → mj_W P s0 D cl al cm sm c0 n0 k p l e R s m args below meth c o h' (t, lv, r) h) (kf : mj_cmp .lt x y = false → mj_W P s0 D cl al cm sm c0 n0 k p l e R s m args below meth c o h' (pc + 3, lv, r) h) : mj_W P s0 D cl al cm sm c0 n0 k p l e R s m args below meth c o h' (pc, lv, .int y :: .int x :: r) h := by
  intro H locs cells slots ls hR hl hc hs hL
  exact lv_icmp_lt X.1 X.2.1 hd ht (fun q => kt (decide_eq_true q) H locs cells slots ls hR hl hc hs hL) (fun q => kf (decide_eq_false q) H locs cells slots ls hR hl hc hs hL)
theorem mj_s_if_ge (X : mj_Fr P s0 cm sm c0 n0 k fr lo p l e R s m meth c) {x : Int32} {off : Int} {t : Nat} (hd : decode (mj_by P k) pc = .ok (.ifCond .ge off, 3)) (ht : (pc : Int) + off = (t : Int)) (kt : mj_cmp .ge x 0 = true → mj_W P s0 D cl al cm sm c0 n0 k p l e R s m args below meth c o h' (t, lv, r) h) (kf : mj_cmp .ge x 0 = false → mj_W P s0 D cl al cm sm c0 n0 k p l e R s m args below meth c o h' (pc + 3, lv, r) h) : mj_W P s0 D cl al cm sm c0 n0 k p l e R s m args below meth c o h' (pc, lv, .int x :: r) h := by
  intro H locs cells slots ls hR hl hc hs hL
  exact lv_if_ge X.1 X.2.1 hd ht (fun q => kt (decide_eq_true q) H locs cells slots ls hR hl hc hs hL) (fun q => kf (decide_eq_false q) H locs cells slots ls hR hl hc hs hL)
theorem mj_s_icmp_ge (X : mj_Fr P s0 cm sm c0 n0 k fr lo p l e R s m meth c) {x y : Int32} {off : Int} {t : Nat} (hd : decode (mj_by P k) pc = .ok (.if_icmp .ge off, 3)) (ht : (pc : Int) + off = (t : Int)) (kt : mj_cmp .ge x y = true → mj_W P s0 D cl al cm sm c0 n0 k p l e R s m args below meth c o h' (t, lv, r) h) (kf : mj_cmp .ge x y = false → mj_W P s0 D cl al cm sm c0 n0 k p l e R s m args below meth c o h' (pc + 3, lv, r) h) : mj_W P s0 D cl al cm sm c0 n0 k p l e R s m args below meth c o h' (pc, lv, .int y :: .int x :: r) h := by
  intro H locs cells slots ls hR hl hc hs hL
  exact lv_icmp_ge X.1 X.2.1 hd ht (fun q => kt (decide_eq_true q) H locs cells slots ls hR hl hc hs hL) (fun q => kf (decide_eq_false q) H locs cells slots ls hR hl hc hs hL)
theorem mj_s_if_gt (X : mj_Fr P s0 cm sm c0 n0 k fr lo p l e R s m meth c) {x : Int32} {off : Int} {t : Nat} (hd : decode (mj_by P k) pc = .ok (.ifCond .gt off, 3)) (ht : (pc : Int) + off = (t : Int)) (kt : mj_cmp .gt x 0 = true → mj_W P s0 D cl al cm sm c0 n0 k p l e R s m args below meth c o h' (t, lv, r) h) (kf : mj_cmp .gt x 0 = false → mj_W P s0 D cl al cm sm c0 n0 k p l e R s m args below meth c o h' (pc + 3, lv, r) h) : mj_W P s0 D cl al cm sm c0 n0 k p l e R s m args below meth c o h' (pc, lv, .int x :: r) h := by
  intro H locs cells slots ls hR hl hc hs hL
  exact lv_if_gt X.1 X.2.1 hd ht (fun q => kt (decide_eq_true q) H locs cells slots ls hR hl hc hs hL) (fun q => kf (decide_eq_false q) H locs cells slots ls hR hl hc hs hL)
theorem mj_s_icmp_gt (X : mj_Fr P s0 cm sm c0 n0 k fr lo p l e R s m meth c) {x y : Int32} {off : Int} {t : Nat} (hd : decode (mj_by P k) pc = .ok (.if_icmp .gt off, 3)) (ht : (pc : Int) + off = (t : Int)) (kt : mj_cmp .gt x y = true → mj_W P s0 D cl al cm sm c0 n0 k p l e R s m args below meth c o h' (t, lv, r) h) (kf : mj_cmp .gt x y = false → mj_W P s0 D cl al cm sm c0 n0 k p l e R s m args below meth c o h' (pc + 3, lv, r) h) : mj_W P s0 D cl al cm sm c0 n0 k p l e R s m args below meth c o h' (pc, lv, .int y :: .int x :: r) h := by
  intro H locs cells slots ls hR hl hc hs hL
  exact lv_icmp_gt X.1 X.2.1 hd ht (fun q => kt (decide_eq_true q) H locs cells slots ls hR hl hc hs hL) (fun q => kf (decide_eq_false q) H locs cells slots ls hR hl hc hs hL)
theorem mj_s_if_le (X : mj_Fr P s0 cm sm c0 n0 k fr lo p l e R s m meth c) {x : Int32} {off : Int} {t : Nat} (hd : decode (mj_by P k) pc = .ok (.ifCond .le off, 3)) (ht : (pc : Int) + off = (t : Int)) (kt : mj_cmp .le x 0 = true → mj_W P s0 D cl al cm sm c0 n0 k p l e R s m args below meth c o h' (t, lv, r) h) (kf : mj_cmp .le x 0 = false → mj_W P s0 D cl al cm sm c0 n0 k p l e R s m args below meth c o h' (pc + 3, lv, r) h) : mj_W P s0 D cl al cm sm c0 n0 k p l e R s m args below meth c o h' (pc, lv, .int x :: r) h := by
  intro H locs cells slots ls hR hl hc hs hL
  exact lv_if_le X.1 X.2.1 hd ht (fun q => kt (decide_eq_true q) H locs cells slots ls hR hl hc hs hL) (fun q => kf (decide_eq_false q) H locs cells slots ls hR hl hc hs hL)
theorem mj_s_icmp_le (X : mj_Fr P s0 cm sm c0 n0 k fr lo p l e R s m meth c) {x y : Int32} {off : Int} {t : Nat} (hd : decode (mj_by P k) pc = .ok (.if_icmp .le off, 3)) (ht : (pc : Int) + off = (t : Int)) (kt : mj_cmp .le x y = true → mj_W P s0 D cl al cm sm c0 n0 k p l e R s m args below meth c o h' (t, lv, r) h) (kf : mj_cmp .le x y = false → mj_W P s0 D cl al cm sm c0 n0 k p l e R s m args below meth c o h' (pc + 3, lv, r) h) : mj_W P s0 D cl al cm sm c0 n0 k p l e R s m args below meth c o h' (pc, lv, .int y :: .int x :: r) h := by
  intro H locs cells slots ls hR hl hc hs hL
  exact lv_icmp_le X.1 X.2.1 hd ht (fun q => kt (decide_eq_true q) H locs cells slots ls hR hl hc hs hL) (fun q => kf (decide_eq_false q) H locs cells slots ls hR hl hc hs hL)
theorem mj_s_tout (X : mj_Fr P s0 cm sm c0 n0 k fr lo p l e R s m meth c) {x : Int32} {dflt lo' hi : Int} {offs : Array Int} {len t : Nat} (hd : decode (mj_by P k) pc = .ok (.tableswitch dflt lo' hi offs, len)) (hx : x.toInt < lo' ∨ hi < x.toInt) (ht : (pc : Int) + dflt = (t : Int)) (kk : mj_W P s0 D cl al cm sm c0 n0 k p l e R s m args below meth c o h' (t, lv, r) h) : mj_W P s0 D cl al cm sm c0 n0 k p l e R s m args below meth c o h' (pc, lv, .int x :: r) h := by
  intro H locs cells slots ls hR hl hc hs hL
  exact lv_tableOut X.1 X.2.1 hd hx ht (kk H locs cells slots ls hR hl hc hs hL)
theorem mj_s_tin (X : mj_Fr P s0 cm sm c0 n0 k fr lo p l e R s m meth c) {x : Int32} {dflt lo' hi off : Int} {offs : Array Int} {len t : Nat} (hd : decode (mj_by P k) pc = .ok (.tableswitch dflt lo' hi offs, len)) (h1 : ¬ x.toInt < lo') (h2 : ¬ hi < x.toInt) (ho : offs[(x.toInt - lo').toNat]? = some off) (ht : (pc : Int) + off = (t : Int)) (kk : mj_W P s0 D cl al cm sm c0 n0 k p l e R s m args below meth c o h' (t, lv, r) h) : mj_W P s0 D cl al cm sm c0 n0 k p l e R s m args below meth c o h' (pc, lv, .int x :: r) h := by
  intro H locs cells slots ls hR hl hc hs hL
  exact lv_tableIn X.1 X.2.1 hd h1 h2 ho ht (kk H locs cells slots ls hR hl hc hs hL)
end MJS
