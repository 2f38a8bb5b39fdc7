/-- the bit i of a map from the byte a on -/
def bt (d : Nat → Nat) (a i : Nat) : Bool := (d (a + i / 8)).testBit (i % 8)
def tb (d : Nat → Nat) (a i : Nat) : Nat → Nat := dp d (a + i / 8) (d (a + i / 8) ^^^ 2 ^ (i % 8))
theorem sb_bit : ∀ n, n < 256 → ∀ k, k < 8 → (sb n >>> (nI k &&& 31)) &&& 1 = nI (bi (n.testBit k)) := by decide +kernel
theorem sb_mod1 (v : Nat) : (nI v).toInt8.toInt32 = sb (v % 256) := by
  have h := sb_mod v
  rwa [Int8.toInt8_toInt32] at h
theorem sb_xor1 : ∀ n, n < 256 → ∀ k, k < 8 → (sb n).toInt8.toInt32 ^^^ (nI 1 <<< (nI k &&& 31)).toInt8.toInt32 = sb ((n ^^^ 2 ^ k) % 256) := by decide +kernel
theorem c_get {cm sm fr lo L : Nat} {xs : Nat → Int32} {A B : gT} {U V : gU} {S : gS} {d : Nat → Nat} {X : mj_H} (hd : dk d) {i : Nat} (hi : i < 2 ^ 31) : eE mm_P cm sm (fr + 1) lo 20 [.ref 4, .int (nI (i))] (Gc L xs A B U V S d X) (.inl (some (.int (nI (d i)))), Gc L xs A B U V S d X) := by
  by_cases h : i < 2048
  · refine eE.of ?_
    refine eR.step 1 (F' := (1, [(0, .ref 4), (1, .int (nI (i)))], [.int (nI (i))])) (h' := (Gc L xs A B U V S d X)) (fun _ _ => rfl) ?_
    refine eR.ifc rfl false ((nc_lt (b := 0) (by omega) (by decide)).trans (decide_eq_false (by omega))) ?_
    refine eR.step 4 (F' := (10, [(0, .ref 4), (1, .int (nI (i)))], [.int (nI 2048), .int (nI (i))])) (h' := (Gc L xs A B U V S d X)) (fun _ _ => rfl) ?_
    refine eR.icmp rfl false ((nc_ge (by omega) (by omega)).trans (decide_eq_false (by omega))) ?_
    refine eR.step 3 (F' := (18, [(0, .ref 4), (1, .int (nI (i)))], [.int (nI (i)), .ref 5])) (h' := (Gc L xs A B U V S d X)) (fun _ _ => rfl) ?_
    refine eR.sim rfl (F := (19, [(0, .ref 4), (1, .int (nI (i)))], [.int (sb (d i))])) (h' := (Gc L xs A B U V S d X)) (by simp [mj_sim, mj_ar, mj_gi, Gc, na_ix h (by decide)]) ?_
    refine eR.sim rfl (F := (22, [(0, .ref 4), (1, .int (nI (i)))], [.int (255), .int (sb (d i))])) (h' := (Gc L xs A B U V S d X)) (by rfl) ?_
    refine eR.sim rfl (F := (23, [(0, .ref 4), (1, .int (nI (i)))], [.int (nI (d i))])) (h' := (Gc L xs A B U V S d X)) (by simp only [mj_sim, mj_bin, Option.map_some, sb_and _ (hd.1 i)]) ?_
    refine eR.step 1 (F' := (27, [(0, .ref 4), (1, .int (nI (i)))], [.int (nI (d i))])) (h' := (Gc L xs A B U V S d X)) (fun _ _ => rfl) ?_
    exact eR.ret rfl rfl rfl
  · rw [hd.2 i (by omega)]
    refine eE.of ?_
    refine eR.step 1 (F' := (1, [(0, .ref 4), (1, .int (nI (i)))], [.int (nI (i))])) (h' := (Gc L xs A B U V S d X)) (fun _ _ => rfl) ?_
    refine eR.ifc rfl false ((nc_lt (b := 0) (by omega) (by decide)).trans (decide_eq_false (by omega))) ?_
    refine eR.step 4 (F' := (10, [(0, .ref 4), (1, .int (nI (i)))], [.int (nI 2048), .int (nI (i))])) (h' := (Gc L xs A B U V S d X)) (fun _ _ => rfl) ?_
    refine eR.icmp rfl true ((nc_ge (by omega) (by omega)).trans (decide_eq_true (by omega))) ?_
    refine eR.step 1 (F' := (27, [(0, .ref 4), (1, .int (nI (i)))], [.int (nI 0)])) (h' := (Gc L xs A B U V S d X)) (fun _ _ => rfl) ?_
    exact eR.ret rfl rfl rfl
theorem c_get_m {cm sm fr lo L : Nat} {xs : Nat → Int32} {A B : gT} {U V : gU} {S : gS} {d : Nat → Nat} {X : mj_H}  : eE mm_P cm sm (fr + 1) lo 20 [.ref 4, .int (-1)] (Gc L xs A B U V S d X) (.inl (some (.int (nI 0))), Gc L xs A B U V S d X) := by
  refine eE.of ?_
  refine eR.step 1 (F' := (1, [(0, .ref 4), (1, .int (-1))], [.int (-1)])) (h' := (Gc L xs A B U V S d X)) (fun _ _ => rfl) ?_
  refine eR.ifc rfl true rfl ?_
  refine eR.step 1 (F' := (27, [(0, .ref 4), (1, .int (-1))], [.int (nI 0)])) (h' := (Gc L xs A B U V S d X)) (fun _ _ => rfl) ?_
  exact eR.ret rfl rfl rfl
theorem c_put {cm sm fr lo L : Nat} {xs : Nat → Int32} {A B : gT} {U V : gU} {S : gS} {d : Nat → Nat} {X : mj_H} {i v : Nat} (hi : i < 2 ^ 31) : eE mm_P cm sm (fr + 1) lo 10 [.ref 4, .int (nI (i)), .int (nI (v))] (Gc L xs A B U V S d X) (.inl (none), Gc L xs A B U V S (dp d i v) X) := by
  by_cases h : i < 2048
  · refine eE.of ?_
    refine eR.step 1 (F' := (1, [(0, .ref 4), (1, .int (nI (i))), (2, .int (nI (v)))], [.int (nI (i))])) (h' := (Gc L xs A B U V S d X)) (fun _ _ => rfl) ?_
    refine eR.ifc rfl false ((nc_lt (b := 0) (by omega) (by decide)).trans (decide_eq_false (by omega))) ?_
    refine eR.step 4 (F' := (10, [(0, .ref 4), (1, .int (nI (i))), (2, .int (nI (v)))], [.int (nI 2048), .int (nI (i))])) (h' := (Gc L xs A B U V S d X)) (fun _ _ => rfl) ?_
    refine eR.icmp rfl false ((nc_ge (by omega) (by omega)).trans (decide_eq_false (by omega))) ?_
    refine eR.step 4 (F' := (19, [(0, .ref 4), (1, .int (nI (i))), (2, .int (nI (v)))], [.int (nI (v)), .int (nI (i)), .ref 5])) (h' := (Gc L xs A B U V S d X)) (fun _ _ => rfl) ?_
    refine eR.sim rfl (F := (20, [(0, .ref 4), (1, .int (nI (i))), (2, .int (nI (v)))], [.int ((nI v).toInt8.toInt32), .int (nI (i)), .ref 5])) (h' := (Gc L xs A B U V S d X)) (by rfl) ?_
    refine eR.sim rfl (F := (21, [(0, .ref 4), (1, .int (nI (i))), (2, .int (nI (v)))], [])) (h' := (Gc L xs A B U V S (dp d i v) X)) (by simp [mj_sim, mj_ar, mj_pi, mj_nw, Gc, na_ix h (by decide)]; exact sb_upd h (sb_mod1 v)) ?_
    exact eR.ret rfl rfl rfl
  · rw [dp_out (by omega)]
    refine eE.of ?_
    refine eR.step 1 (F' := (1, [(0, .ref 4), (1, .int (nI (i))), (2, .int (nI (v)))], [.int (nI (i))])) (h' := (Gc L xs A B U V S d X)) (fun _ _ => rfl) ?_
    refine eR.ifc rfl false ((nc_lt (b := 0) (by omega) (by decide)).trans (decide_eq_false (by omega))) ?_
    refine eR.step 4 (F' := (10, [(0, .ref 4), (1, .int (nI (i))), (2, .int (nI (v)))], [.int (nI 2048), .int (nI (i))])) (h' := (Gc L xs A B U V S d X)) (fun _ _ => rfl) ?_
    refine eR.icmp rfl true ((nc_ge (by omega) (by omega)).trans (decide_eq_true (by omega))) ?_
    exact eR.ret rfl rfl rfl
theorem c_put_m {cm sm fr lo L : Nat} {xs : Nat → Int32} {A B : gT} {U V : gU} {S : gS} {d : Nat → Nat} {X : mj_H} {v : Nat} : eE mm_P cm sm (fr + 1) lo 10 [.ref 4, .int (-1), .int (nI (v))] (Gc L xs A B U V S d X) (.inl (none), Gc L xs A B U V S d X) := by
  refine eE.of ?_
  refine eR.step 1 (F' := (1, [(0, .ref 4), (1, .int (-1)), (2, .int (nI (v)))], [.int (-1)])) (h' := (Gc L xs A B U V S d X)) (fun _ _ => rfl) ?_
  refine eR.ifc rfl true rfl ?_
  exact eR.ret rfl rfl rfl
theorem c_hasBit {cm sm fr lo L : Nat} {xs : Nat → Int32} {A B : gT} {U V : gU} {S : gS} {d : Nat → Nat} {X : mj_H} (hd : dk d) {a i : Nat} (ha : a < 1000) (hi : i < 2 ^ 30) : eE mm_P cm sm (fr + 1) lo 15 [.ref 4, .int (nI (a)), .int (nI (i))] (Gc L xs A B U V S d X) (.inl (some (.int (nI (bi (bt d a i))))), Gc L xs A B U V S d X) := by
  have hq : a + i / 8 < 2 ^ 31 := by omega
  by_cases h : a + i / 8 < 2048
  · refine eE.of ?_
    refine eR.step 3 (F' := (4, [(0, .ref 4), (1, .int (nI (a))), (2, .int (nI (i)))], [.int (nI 8), .int (nI (i)), .int (nI (a))])) (h' := (Gc L xs A B U V S d X)) (fun _ _ => rfl) ?_
    refine eR.ndiv rfl (by omega) (by decide) (by decide) ?_
    refine eR.nadd rfl ?_
    refine eR.step 2 (F' := (8, [(0, .ref 4), (1, .int (nI (a))), (2, .int (nI (i))), (3, .int (nI (a + (i / 8))))], [.int (nI (a + (i / 8)))])) (h' := (Gc L xs A B U V S d X)) (fun _ _ => rfl) ?_
    refine eR.ifc rfl false ((nc_lt (b := 0) (by omega) (by decide)).trans (decide_eq_false (by omega))) ?_
    refine eR.step 4 (F' := (17, [(0, .ref 4), (1, .int (nI (a))), (2, .int (nI (i))), (3, .int (nI (a + (i / 8))))], [.int (nI 2048), .int (nI (a + (i / 8)))])) (h' := (Gc L xs A B U V S d X)) (fun _ _ => rfl) ?_
    refine eR.icmp rfl false ((nc_ge (by omega) (by omega)).trans (decide_eq_false (by omega))) ?_
    refine eR.step 3 (F' := (25, [(0, .ref 4), (1, .int (nI (a))), (2, .int (nI (i))), (3, .int (nI (a + (i / 8))))], [.int (nI (a + (i / 8))), .ref 5])) (h' := (Gc L xs A B U V S d X)) (fun _ _ => rfl) ?_
    refine eR.sim rfl (F := (26, [(0, .ref 4), (1, .int (nI (a))), (2, .int (nI (i))), (3, .int (nI (a + (i / 8))))], [.int (sb (d (a + i / 8)))])) (h' := (Gc L xs A B U V S d X)) (by simp [mj_sim, mj_ar, mj_gi, Gc, na_ix h (by decide)]) ?_
    refine eR.step 2 (F' := (29, [(0, .ref 4), (1, .int (nI (a))), (2, .int (nI (i))), (3, .int (nI (a + (i / 8))))], [.int (nI 8), .int (nI (i)), .int (sb (d (a + i / 8)))])) (h' := (Gc L xs A B U V S d X)) (fun _ _ => rfl) ?_
    refine eR.nrem rfl (by omega) (by decide) (by decide) ?_
    refine eR.sim rfl (F := (31, [(0, .ref 4), (1, .int (nI (a))), (2, .int (nI (i))), (3, .int (nI (a + (i / 8))))], [.int (sb (d (a + i / 8)) >>> (nI (i % 8) &&& 31))])) (h' := (Gc L xs A B U V S d X)) (by rfl) ?_
    refine eR.sim rfl (F := (32, [(0, .ref 4), (1, .int (nI (a))), (2, .int (nI (i))), (3, .int (nI (a + (i / 8))))], [.int (1), .int (sb (d (a + i / 8)) >>> (nI (i % 8) &&& 31))])) (h' := (Gc L xs A B U V S d X)) (by rfl) ?_
    refine eR.sim rfl (F := (33, [(0, .ref 4), (1, .int (nI (a))), (2, .int (nI (i))), (3, .int (nI (a + (i / 8))))], [.int (nI (bi (bt d a i)))])) (h' := (Gc L xs A B U V S d X)) (by simp only [mj_sim, mj_bin, Option.map_some, sb_bit _ (hd.1 _) (i % 8) (Nat.mod_lt _ (by decide)), bt]) ?_
    refine eR.step 1 (F' := (34, [(0, .ref 4), (1, .int (nI (a))), (2, .int (nI (i))), (3, .int (nI (a + (i / 8))))], [.int (nI 1), .int (nI (bi (bt d a i)))])) (h' := (Gc L xs A B U V S d X)) (fun _ _ => rfl) ?_
    cases hb : bt d a i
    · show eR mm_P cm sm fr lo 15 (34, [(0, .ref 4), (1, .int (nI (a))), (2, .int (nI (i))), (3, .int (nI (a + (i / 8))))], [.int (nI 1), .int (nI (bi false))]) ((Gc L xs A B U V S d X)) _
      refine eR.icmp rfl true rfl ?_
      refine eR.step 1 (F' := (42, [(0, .ref 4), (1, .int (nI (a))), (2, .int (nI (i))), (3, .int (nI (a + (i / 8))))], [.int (nI 0)])) (h' := (Gc L xs A B U V S d X)) (fun _ _ => rfl) ?_
      exact eR.ret rfl rfl rfl
    · show eR mm_P cm sm fr lo 15 (34, [(0, .ref 4), (1, .int (nI (a))), (2, .int (nI (i))), (3, .int (nI (a + (i / 8))))], [.int (nI 1), .int (nI (bi true))]) ((Gc L xs A B U V S d X)) _
      refine eR.icmp rfl false rfl ?_
      refine eR.step 2 (F' := (42, [(0, .ref 4), (1, .int (nI (a))), (2, .int (nI (i))), (3, .int (nI (a + (i / 8))))], [.int (nI 1)])) (h' := (Gc L xs A B U V S d X)) (fun _ _ => rfl) ?_
      exact eR.ret rfl rfl rfl
  · have hz : bt d a i = false := by
      unfold bt
      rw [hd.2 _ (by omega)]
      exact Nat.zero_testBit _
    rw [hz]
    refine eE.of ?_
    refine eR.step 3 (F' := (4, [(0, .ref 4), (1, .int (nI (a))), (2, .int (nI (i)))], [.int (nI 8), .int (nI (i)), .int (nI (a))])) (h' := (Gc L xs A B U V S d X)) (fun _ _ => rfl) ?_
    refine eR.ndiv rfl (by omega) (by decide) (by decide) ?_
    refine eR.nadd rfl ?_
    refine eR.step 2 (F' := (8, [(0, .ref 4), (1, .int (nI (a))), (2, .int (nI (i))), (3, .int (nI (a + (i / 8))))], [.int (nI (a + (i / 8)))])) (h' := (Gc L xs A B U V S d X)) (fun _ _ => rfl) ?_
    refine eR.ifc rfl false ((nc_lt (b := 0) (by omega) (by decide)).trans (decide_eq_false (by omega))) ?_
    refine eR.step 4 (F' := (17, [(0, .ref 4), (1, .int (nI (a))), (2, .int (nI (i))), (3, .int (nI (a + (i / 8))))], [.int (nI 2048), .int (nI (a + (i / 8)))])) (h' := (Gc L xs A B U V S d X)) (fun _ _ => rfl) ?_
    refine eR.icmp rfl true ((nc_ge (by omega) (by omega)).trans (decide_eq_true (by omega))) ?_
    refine eR.step 1 (F' := (42, [(0, .ref 4), (1, .int (nI (a))), (2, .int (nI (i))), (3, .int (nI (a + (i / 8))))], [.int (nI 0)])) (h' := (Gc L xs A B U V S d X)) (fun _ _ => rfl) ?_
    exact eR.ret rfl rfl rfl
theorem c_turnBit {cm sm fr lo L : Nat} {xs : Nat → Int32} {A B : gT} {U V : gU} {S : gS} {d : Nat → Nat} {X : mj_H} (hd : dk d) {a i : Nat} (ha : a < 1000) (hi : i < 2 ^ 30) : eE mm_P cm sm (fr + 1) lo 12 [.ref 4, .int (nI (a)), .int (nI (i))] (Gc L xs A B U V S d X) (.inl (none), Gc L xs A B U V S (tb d a i) X) := by
  have hq : a + i / 8 < 2 ^ 31 := by omega
  by_cases h : a + i / 8 < 2048
  · refine eE.of ?_
    refine eR.step 3 (F' := (4, [(0, .ref 4), (1, .int (nI (a))), (2, .int (nI (i)))], [.int (nI 8), .int (nI (i)), .int (nI (a))])) (h' := (Gc L xs A B U V S d X)) (fun _ _ => rfl) ?_
    refine eR.ndiv rfl (by omega) (by decide) (by decide) ?_
    refine eR.nadd rfl ?_
    refine eR.step 2 (F' := (8, [(0, .ref 4), (1, .int (nI (a))), (2, .int (nI (i))), (3, .int (nI (a + (i / 8))))], [.int (nI (a + (i / 8)))])) (h' := (Gc L xs A B U V S d X)) (fun _ _ => rfl) ?_
    refine eR.ifc rfl false ((nc_lt (b := 0) (by omega) (by decide)).trans (decide_eq_false (by omega))) ?_
    refine eR.step 4 (F' := (17, [(0, .ref 4), (1, .int (nI (a))), (2, .int (nI (i))), (3, .int (nI (a + (i / 8))))], [.int (nI 2048), .int (nI (a + (i / 8)))])) (h' := (Gc L xs A B U V S d X)) (fun _ _ => rfl) ?_
    refine eR.icmp rfl false ((nc_ge (by omega) (by omega)).trans (decide_eq_false (by omega))) ?_
    refine eR.step 4 (F' := (26, [(0, .ref 4), (1, .int (nI (a))), (2, .int (nI (i))), (3, .int (nI (a + (i / 8))))], [.int (nI (a + (i / 8))), .ref 5, .int (nI (a + (i / 8))), .ref 5])) (h' := (Gc L xs A B U V S d X)) (fun _ _ => rfl) ?_
    refine eR.sim rfl (F := (27, [(0, .ref 4), (1, .int (nI (a))), (2, .int (nI (i))), (3, .int (nI (a + (i / 8))))], [.int (sb (d (a + i / 8))), .int (nI (a + (i / 8))), .ref 5])) (h' := (Gc L xs A B U V S d X)) (by simp [mj_sim, mj_ar, mj_gi, Gc, na_ix h (by decide)]) ?_
    refine eR.step 3 (F' := (31, [(0, .ref 4), (1, .int (nI (a))), (2, .int (nI (i))), (3, .int (nI (a + (i / 8))))], [.int (nI 8), .int (nI (i)), .int (nI 1), .int (sb (d (a + i / 8))), .int (nI (a + (i / 8))), .ref 5])) (h' := (Gc L xs A B U V S d X)) (fun _ _ => rfl) ?_
    refine eR.nrem rfl (by omega) (by decide) (by decide) ?_
    refine eR.sim rfl (F := (33, [(0, .ref 4), (1, .int (nI (a))), (2, .int (nI (i))), (3, .int (nI (a + (i / 8))))], [.int (nI 1 <<< (nI (i % 8) &&& 31)), .int (sb (d (a + i / 8))), .int (nI (a + (i / 8))), .ref 5])) (h' := (Gc L xs A B U V S d X)) (by rfl) ?_
    refine eR.sim rfl (F := (34, [(0, .ref 4), (1, .int (nI (a))), (2, .int (nI (i))), (3, .int (nI (a + (i / 8))))], [.int ((nI 1 <<< (nI (i % 8) &&& 31)).toInt8.toInt32), .int (sb (d (a + i / 8))), .int (nI (a + (i / 8))), .ref 5])) (h' := (Gc L xs A B U V S d X)) (by rfl) ?_
    refine eR.sim rfl (F := (35, [(0, .ref 4), (1, .int (nI (a))), (2, .int (nI (i))), (3, .int (nI (a + (i / 8))))], [.int (sb (d (a + i / 8)) ^^^ (nI 1 <<< (nI (i % 8) &&& 31)).toInt8.toInt32), .int (nI (a + (i / 8))), .ref 5])) (h' := (Gc L xs A B U V S d X)) (by rfl) ?_
    refine eR.sim rfl (F := (36, [(0, .ref 4), (1, .int (nI (a))), (2, .int (nI (i))), (3, .int (nI (a + (i / 8))))], [.int ((sb (d (a + i / 8)) ^^^ (nI 1 <<< (nI (i % 8) &&& 31)).toInt8.toInt32).toInt8.toInt32), .int (nI (a + (i / 8))), .ref 5])) (h' := (Gc L xs A B U V S d X)) (by rfl) ?_
    refine eR.sim rfl (F := (37, [(0, .ref 4), (1, .int (nI (a))), (2, .int (nI (i))), (3, .int (nI (a + (i / 8))))], [])) (h' := (Gc L xs A B U V S (tb d a i) X)) (by simp [mj_sim, mj_ar, mj_pi, mj_nw, Gc, na_ix h (by decide), tb]; exact sb_upd h (sb_xor1 _ (hd.1 _) (i % 8) (Nat.mod_lt _ (by decide)))) ?_
    exact eR.ret rfl rfl rfl
  · unfold tb
    rw [dp_out (by omega)]
    refine eE.of ?_
    refine eR.step 3 (F' := (4, [(0, .ref 4), (1, .int (nI (a))), (2, .int (nI (i)))], [.int (nI 8), .int (nI (i)), .int (nI (a))])) (h' := (Gc L xs A B U V S d X)) (fun _ _ => rfl) ?_
    refine eR.ndiv rfl (by omega) (by decide) (by decide) ?_
    refine eR.nadd rfl ?_
    refine eR.step 2 (F' := (8, [(0, .ref 4), (1, .int (nI (a))), (2, .int (nI (i))), (3, .int (nI (a + (i / 8))))], [.int (nI (a + (i / 8)))])) (h' := (Gc L xs A B U V S d X)) (fun _ _ => rfl) ?_
    refine eR.ifc rfl false ((nc_lt (b := 0) (by omega) (by decide)).trans (decide_eq_false (by omega))) ?_
    refine eR.step 4 (F' := (17, [(0, .ref 4), (1, .int (nI (a))), (2, .int (nI (i))), (3, .int (nI (a + (i / 8))))], [.int (nI 2048), .int (nI (a + (i / 8)))])) (h' := (Gc L xs A B U V S d X)) (fun _ _ => rfl) ?_
    refine eR.icmp rfl true ((nc_ge (by omega) (by omega)).trans (decide_eq_true (by omega))) ?_
    exact eR.ret rfl rfl rfl
/-- zeros: m bytes from a on -/
def cz (d : Nat → Nat) (a m : Nat) : Nat → Nat := fun k => if a ≤ k ∧ k < a + m then 0 else d k
theorem cz_dk {d : Nat → Nat} (h : dk d) (a m : Nat) : dk (cz d a m) := by
  refine ⟨fun k => ?_, fun k hk => ?_⟩
  · unfold cz
    split
    · decide
    · exact h.1 k
  · unfold cz
    split
    · rfl
    · exact h.2 k hk
theorem cz_0 (d : Nat → Nat) (a : Nat) : cz d a 0 = d := by
  funext k
  unfold cz
  rw [if_neg (by omega)]
theorem cz_s {d : Nat → Nat} (h : dk d) (a m : Nat) : dp (cz d a m) (a + m) 0 = cz d a (m + 1) := by
  funext k
  unfold dp cz
  by_cases h1 : k = a + m
  · subst h1
    by_cases h2 : a + m < 2048
    · rw [if_pos ⟨rfl, h2⟩, if_pos (by omega)]
    · rw [if_neg (by omega), if_neg (by omega), if_pos (by omega), h.2 _ (by omega)]
  · rw [if_neg (by omega)]
    by_cases h2 : a ≤ k ∧ k < a + m
    · rw [if_pos h2, if_pos (by omega)]
    · rw [if_neg h2, if_neg (by omega)]
theorem l_clear {cm sm fr lo L : Nat} {xs : Nat → Int32} {A B : gT} {U V : gU} {S : gS} {d : Nat → Nat} {X : mj_H} (hlo : 22 ≤ lo) (hd : dk d) {a n : Nat} (ha : a < 2 ^ 20) (hn : n < 2 ^ 20) : ∀ q m : Nat, m + q = n → eR mm_P cm sm (fr + 1) lo 9 (2, [(0, .ref 4), (1, .int (nI a)), (2, .int (nI n)), (3, .int (nI m))], []) (Gc L xs A B U V S (cz d a m) X) (.inl none, Gc L xs A B U V S (cz d a n) X)
  | 0, m, hm => by
    have e : m = n := by omega
    subst e
    refine eR.step 2 (F' := (4, [(0, .ref 4), (1, .int (nI (a))), (2, .int (nI (m))), (3, .int (nI (m)))], [.int (nI (m)), .int (nI (m))])) (h' := (Gc L xs A B U V S (cz d a m) X)) (fun _ _ => rfl) ?_
    refine eR.icmp rfl true ((nc_ge (by omega) (by omega)).trans (decide_eq_true (by omega))) ?_
    exact eR.ret rfl rfl rfl
  | q + 1, m, hm => by
    refine eR.step 2 (F' := (4, [(0, .ref 4), (1, .int (nI (a))), (2, .int (nI (n))), (3, .int (nI (m)))], [.int (nI (n)), .int (nI (m))])) (h' := (Gc L xs A B U V S (cz d a m) X)) (fun _ _ => rfl) ?_
    refine eR.icmp rfl false ((nc_ge (by omega) (by omega)).trans (decide_eq_false (by omega))) ?_
    refine eR.step 3 (F' := (10, [(0, .ref 4), (1, .int (nI (a))), (2, .int (nI (n))), (3, .int (nI (m)))], [.int (nI (m)), .int (nI (a)), .ref 4])) (h' := (Gc L xs A B U V S (cz d a m) X)) (fun _ _ => rfl) ?_
    refine eR.nadd rfl ?_
    refine eR.step 1 (F' := (12, [(0, .ref 4), (1, .int (nI (a))), (2, .int (nI (n))), (3, .int (nI (m)))], [.int (nI 0), .int (nI (a + m)), .ref 4])) (h' := (Gc L xs A B U V S (cz d a m) X)) (fun _ _ => rfl) ?_
    refine eR.call (k' := 10) (as := [.ref 4, .int (nI (a + m)), .int (nI 0)]) (rest := []) (v := none) (h1 := (Gc L xs A B U V S (cz d a (m + 1)) X)) rfl rfl rfl rfl (eg (Nat.le_of_ble_eq_true rfl) (show 22 ≤ lo by omega) (Nat.le_of_ble_eq_true rfl)) (by rw [← cz_s hd]; exact c_put (by omega)) ?_
    refine eR.step 1 (F' := (18, [(0, .ref 4), (1, .int (nI (a))), (2, .int (nI (n))), (3, .int (nI (m) + 1))], [])) (h' := (Gc L xs A B U V S (cz d a (m + 1)) X)) (fun _ _ => rfl) ?_
    rw [show nI (m) + 1 = nI (m + 1) from nI_add (m) 1]
    refine eR.step 1 (F' := (2, [(0, .ref 4), (1, .int (nI (a))), (2, .int (nI (n))), (3, .int (nI (m + 1)))], [])) (h' := (Gc L xs A B U V S (cz d a (m + 1)) X)) (fun _ _ => rfl) ?_
    exact l_clear hlo hd ha hn q (m + 1) (by omega)
theorem c_clear {cm sm fr lo L : Nat} {xs : Nat → Int32} {A B : gT} {U V : gU} {S : gS} {d : Nat → Nat} {X : mj_H} (hlo : 22 ≤ lo) (hd : dk d) {a n : Nat} (ha : a < 2 ^ 20) (hn : n < 2 ^ 20) : eE mm_P cm sm (fr + 2) lo 9 [.ref 4, .int (nI (a)), .int (nI (n))] (Gc L xs A B U V S d X) (.inl (none), Gc L xs A B U V S (cz d a n) X) := by
  refine eE.of ?_
  refine eR.step 2 (F' := (2, [(0, .ref 4), (1, .int (nI (a))), (2, .int (nI (n))), (3, .int (nI 0))], [])) (h' := (Gc L xs A B U V S d X)) (fun _ _ => rfl) ?_
  have h := l_clear (cm := cm) (sm := sm) (fr := fr) (lo := lo) (L := L) (xs := xs) (A := A) (B := B) (U := U) (V := V) (S := S) (X := X) hlo hd ha hn n 0 (by omega)
  rw [cz_0] at h
  exact h

