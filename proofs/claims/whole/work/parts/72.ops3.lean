theorem c_byteAt0 {cm sm fr lo L : Nat} {xs : Nat → Int32} {A B : gT} {U V : gU} {S : gS} {d : Nat → Nat} {X : mj_H} (hlo : 21 ≤ lo) (hd : dk d) {n : Nat} (hn : n < 2048) : eE mm_P cm sm (fr + 2) lo 60 [.ref 3, .int (nI (n))] (Gc L xs A B U V S d X) (.inl (some (.int (nI (d n)))), (Gc L xs A B U V S d X)) := by
  refine eE.of ?_
  refine eR.step 1 (F' := (1, [(0, .ref 3), (1, .int (nI (n)))], [.int (nI (n))])) (h' := (Gc L xs A B U V S d X)) (fun _ _ => rfl) ?_
  refine eR.ifc rfl false ((nc_lt (b := 0) (by omega) (by decide)).trans (decide_eq_false (by omega))) ?_
  refine eR.step 2 (F' := (8, [(0, .ref 3), (1, .int (nI (n)))], [.int (nI 2048), .int (nI (n))])) (h' := (Gc L xs A B U V S d X)) (fun _ _ => rfl) ?_
  refine eR.icmp rfl false ((nc_ge (by omega) (by omega)).trans (decide_eq_false (by omega))) ?_
  refine eR.step 3 (F' := (16, [(0, .ref 3), (1, .int (nI (n)))], [.int (nI (n)), .ref 4])) (h' := (Gc L xs A B U V S d X)) (fun _ _ => rfl) ?_
  refine eR.call (k' := 20) (as := [.ref 4, .int (nI (n))]) (rest := []) (v := some (.int (nI (d n)))) (h1 := (Gc L xs A B U V S d X)) rfl rfl rfl rfl (eg (Nat.le_of_ble_eq_true rfl) (show 21 ≤ lo by omega) (Nat.le_of_ble_eq_true rfl)) (c_get hd (by omega)) ?_
  refine eR.step 1 (F' := (23, [(0, .ref 3), (1, .int (nI (n)))], [.int (nI (d n))])) (h' := (Gc L xs A B U V S d X)) (fun _ _ => rfl) ?_
  exact eR.ret rfl rfl rfl
theorem c_byteAt1 {cm sm fr lo L : Nat} {xs : Nat → Int32} {A B : gT} {U V : gU} {S : gS} {d : Nat → Nat} {X : mj_H} (hlo : 21 ≤ lo) {n : Nat} (hn : n < 2 ^ 31) (h : 2048 ≤ n) : eE mm_P cm sm (fr + 2) lo 60 [.ref 3, .int (nI (n))] (Gc L xs A B U V S d X) (.inl (some (.int (-1))), (Gc L xs A B U V S d X)) := by
  refine eE.of ?_
  refine eR.step 1 (F' := (1, [(0, .ref 3), (1, .int (nI (n)))], [.int (nI (n))])) (h' := (Gc L xs A B U V S d X)) (fun _ _ => rfl) ?_
  refine eR.ifc rfl false ((nc_lt (b := 0) (by omega) (by decide)).trans (decide_eq_false (by omega))) ?_
  refine eR.step 2 (F' := (8, [(0, .ref 3), (1, .int (nI (n)))], [.int (nI 2048), .int (nI (n))])) (h' := (Gc L xs A B U V S d X)) (fun _ _ => rfl) ?_
  refine eR.icmp rfl true ((nc_ge (by omega) (by omega)).trans (decide_eq_true (by omega))) ?_
  refine eR.step 1 (F' := (23, [(0, .ref 3), (1, .int (nI (n)))], [.int ((-1 : Int32))])) (h' := (Gc L xs A B U V S d X)) (fun _ _ => rfl) ?_
  exact eR.ret rfl rfl rfl
theorem c_byteAtM {cm sm fr lo L : Nat} {xs : Nat → Int32} {A B : gT} {U V : gU} {S : gS} {d : Nat → Nat} {X : mj_H} (hlo : 21 ≤ lo) {x : Int32} (hx : x < 0) : eE mm_P cm sm (fr + 2) lo 60 [.ref 3, .int (x)] (Gc L xs A B U V S d X) (.inl (some (.int (-1))), (Gc L xs A B U V S d X)) := by
  refine eE.of ?_
  refine eR.step 1 (F' := (1, [(0, .ref 3), (1, .int (x))], [.int (x)])) (h' := (Gc L xs A B U V S d X)) (fun _ _ => rfl) ?_
  refine eR.ifc rfl true (decide_eq_true hx) ?_
  refine eR.step 1 (F' := (23, [(0, .ref 3), (1, .int (x))], [.int ((-1 : Int32))])) (h' := (Gc L xs A B U V S d X)) (fun _ _ => rfl) ?_
  exact eR.ret rfl rfl rfl
theorem c_count0 {cm sm fr lo L : Nat} {xs : Nat → Int32} {A B : gT} {U V : gU} {S : gS} {d : Nat → Nat} {X : mj_H} (hlo : 45 ≤ lo) (hd : dk d) : eE mm_P cm sm (fr + 3) lo 61 [.ref 3, .int (nI 0)] (Gc L xs A B U V S d X) (.inl (some (.int (nI (cf d 1 1 15)))), (Gc L xs A B U V S d X)) := by
  refine eE.of ?_
  refine eR.step 1 (F' := (1, [(0, .ref 3), (1, .int (nI 0))], [.int (nI 0)])) (h' := (Gc L xs A B U V S d X)) (fun _ _ => rfl) ?_
  refine eR.swi rfl (by decide) (by decide) rfl ?_
  refine eR.step 2 (F' := (32, [(0, .ref 3), (1, .int (nI 0))], [.ref 6])) (h' := (Gc L xs A B U V S d X)) (fun _ _ => rfl) ?_
  refine eR.call (k' := 62) (as := [.ref 6]) (rest := []) (v := some (.int (nI (cf d 1 1 15)))) (h1 := (Gc L xs A B U V S d X)) rfl rfl rfl rfl (eg (Nat.le_of_ble_eq_true rfl) (show 22 ≤ lo by omega) (Nat.le_of_ble_eq_true rfl)) (c_left_6 (show 23 ≤ lo - 22 by omega) hd) ?_
  exact eR.ret rfl rfl rfl
theorem c_count1 {cm sm fr lo L : Nat} {xs : Nat → Int32} {A B : gT} {U V : gU} {S : gS} {d : Nat → Nat} {X : mj_H} (hlo : 45 ≤ lo) (hd : dk d) : eE mm_P cm sm (fr + 3) lo 61 [.ref 3, .int (nI 1)] (Gc L xs A B U V S d X) (.inl (some (.int (nI (cf d 3 9 55)))), (Gc L xs A B U V S d X)) := by
  refine eE.of ?_
  refine eR.step 1 (F' := (1, [(0, .ref 3), (1, .int (nI 1))], [.int (nI 1)])) (h' := (Gc L xs A B U V S d X)) (fun _ _ => rfl) ?_
  refine eR.swi rfl (by decide) (by decide) rfl ?_
  refine eR.step 2 (F' := (40, [(0, .ref 3), (1, .int (nI 1))], [.ref 7])) (h' := (Gc L xs A B U V S d X)) (fun _ _ => rfl) ?_
  refine eR.call (k' := 62) (as := [.ref 7]) (rest := []) (v := some (.int (nI (cf d 3 9 55)))) (h1 := (Gc L xs A B U V S d X)) rfl rfl rfl rfl (eg (Nat.le_of_ble_eq_true rfl) (show 22 ≤ lo by omega) (Nat.le_of_ble_eq_true rfl)) (c_left_7 (show 23 ≤ lo - 22 by omega) hd) ?_
  exact eR.ret rfl rfl rfl
theorem c_count2 {cm sm fr lo L : Nat} {xs : Nat → Int32} {A B : gT} {U V : gU} {S : gS} {d : Nat → Nat} {X : mj_H} (hlo : 45 ≤ lo) (hd : dk d) : eE mm_P cm sm (fr + 3) lo 61 [.ref 3, .int (nI 2)] (Gc L xs A B U V S d X) (.inl (some (.int (nI (d 11)))), (Gc L xs A B U V S d X)) := by
  refine eE.of ?_
  refine eR.step 1 (F' := (1, [(0, .ref 3), (1, .int (nI 2))], [.int (nI 2)])) (h' := (Gc L xs A B U V S d X)) (fun _ _ => rfl) ?_
  refine eR.swi rfl (by decide) (by decide) rfl ?_
  refine eR.step 3 (F' := (50, [(0, .ref 3), (1, .int (nI 2))], [.int (nI 11), .ref 4])) (h' := (Gc L xs A B U V S d X)) (fun _ _ => rfl) ?_
  refine eR.call (k' := 20) (as := [.ref 4, .int (nI 11)]) (rest := []) (v := some (.int (nI (d 11)))) (h1 := (Gc L xs A B U V S d X)) rfl rfl rfl rfl (eg (Nat.le_of_ble_eq_true rfl) (show 21 ≤ lo by omega) (Nat.le_of_ble_eq_true rfl)) (c_get hd (by decide)) ?_
  exact eR.ret rfl rfl rfl
theorem c_countD {cm sm fr lo L : Nat} {xs : Nat → Int32} {A B : gT} {U V : gU} {S : gS} {d : Nat → Nat} {X : mj_H} (hlo : 45 ≤ lo) {x : Int32} (hx : x.toInt < 0 ∨ 2 < x.toInt) : eE mm_P cm sm (fr + 3) lo 61 [.ref 3, .int (x)] (Gc L xs A B U V S d X) (.inl (some (.int (-1))), (Gc L xs A B U V S d X)) := by
  refine eE.of ?_
  refine eR.step 1 (F' := (1, [(0, .ref 3), (1, .int (x))], [.int (x)])) (h' := (Gc L xs A B U V S d X)) (fun _ _ => rfl) ?_
  refine eR.swd rfl hx ?_
  refine eR.step 1 (F' := (55, [(0, .ref 3), (1, .int (x))], [.int ((-1 : Int32))])) (h' := (Gc L xs A B U V S d X)) (fun _ _ => rfl) ?_
  exact eR.ret rfl rfl rfl
theorem c_spMap_6 {cm sm fr lo L : Nat} {xs : Nat → Int32} {A B : gT} {U V : gU} {S : gS} {d : Nat → Nat} {X : mj_H} (hlo : 44 ≤ lo) (hd : dk d) {n : Nat} (h : 1 ≤ n ∧ n < 16) : eE mm_P cm sm (fr + 3) lo 37 [.ref 3, .ref 6, .int (nI (n))] (Gc L xs A B U V S d X) (.inl (some (.int (nI 1))), (Gc L xs A B U V S (tb d 1 n) X)) := by
  refine eE.of ?_
  refine eR.step 2 (F' := (2, [(0, .ref 3), (1, .ref 6), (2, .int (nI (n)))], [.int (nI (n)), .ref 6])) (h' := (Gc L xs A B U V S d X)) (fun _ _ => rfl) ?_
  refine eR.call (k' := 38) (as := [.ref 6, .int (nI (n))]) (rest := []) (v := some (.int (nI (bi (decide (1 ≤ n ∧ n < 16)))))) (h1 := (Gc L xs A B U V S d X)) rfl rfl rfl rfl (eg (Nat.le_of_ble_eq_true rfl) (show 21 ≤ lo by omega) (Nat.le_of_ble_eq_true rfl)) (c_can_6 (by omega)) ?_
  rw [bj_t (decide_eq_true h)]
  refine eR.ifc rfl true rfl ?_
  refine eR.step 2 (F' := (12, [(0, .ref 3), (1, .ref 6), (2, .int (nI (n)))], [.int (nI (n)), .ref 6])) (h' := (Gc L xs A B U V S d X)) (fun _ _ => rfl) ?_
  refine eR.call (k' := 39) (as := [.ref 6, .int (nI (n))]) (rest := []) (v := none) (h1 := (Gc L xs A B U V S (tb d 1 n) X)) rfl rfl rfl rfl (eg (Nat.le_of_ble_eq_true rfl) (show 21 ≤ lo by omega) (Nat.le_of_ble_eq_true rfl)) (c_turn_6 (show 23 ≤ lo - 21 by omega) hd (by omega)) ?_
  refine eR.step 1 (F' := (16, [(0, .ref 3), (1, .ref 6), (2, .int (nI (n)))], [.int (nI 1)])) (h' := (Gc L xs A B U V S (tb d 1 n) X)) (fun _ _ => rfl) ?_
  exact eR.ret rfl rfl rfl
theorem c_spMap_6N {cm sm fr lo L : Nat} {xs : Nat → Int32} {A B : gT} {U V : gU} {S : gS} {d : Nat → Nat} {X : mj_H} (hlo : 44 ≤ lo) {n : Nat} (hn : n < 2 ^ 31) (h : ¬ (1 ≤ n ∧ n < 16)) : eE mm_P cm sm (fr + 3) lo 37 [.ref 3, .ref 6, .int (nI (n))] (Gc L xs A B U V S d X) (.inl (some (.int (nI 0))), (Gc L xs A B U V S d X)) := by
  refine eE.of ?_
  refine eR.step 2 (F' := (2, [(0, .ref 3), (1, .ref 6), (2, .int (nI (n)))], [.int (nI (n)), .ref 6])) (h' := (Gc L xs A B U V S d X)) (fun _ _ => rfl) ?_
  refine eR.call (k' := 38) (as := [.ref 6, .int (nI (n))]) (rest := []) (v := some (.int (nI (bi (decide (1 ≤ n ∧ n < 16)))))) (h1 := (Gc L xs A B U V S d X)) rfl rfl rfl rfl (eg (Nat.le_of_ble_eq_true rfl) (show 21 ≤ lo by omega) (Nat.le_of_ble_eq_true rfl)) (c_can_6 (by omega)) ?_
  rw [bj_f (fun z => h (of_decide_eq_true z))]
  refine eR.ifc rfl false rfl ?_
  refine eR.step 1 (F' := (9, [(0, .ref 3), (1, .ref 6), (2, .int (nI (n)))], [.int (nI 0)])) (h' := (Gc L xs A B U V S d X)) (fun _ _ => rfl) ?_
  exact eR.ret rfl rfl rfl
theorem c_spMap_6M {cm sm fr lo L : Nat} {xs : Nat → Int32} {A B : gT} {U V : gU} {S : gS} {d : Nat → Nat} {X : mj_H} (hlo : 44 ≤ lo) {x : Int32} (hx : x < 0) : eE mm_P cm sm (fr + 3) lo 37 [.ref 3, .ref 6, .int (x)] (Gc L xs A B U V S d X) (.inl (some (.int (nI 0))), (Gc L xs A B U V S d X)) := by
  refine eE.of ?_
  refine eR.step 2 (F' := (2, [(0, .ref 3), (1, .ref 6), (2, .int (x))], [.int (x), .ref 6])) (h' := (Gc L xs A B U V S d X)) (fun _ _ => rfl) ?_
  refine eR.call (k' := 38) (as := [.ref 6, .int (x)]) (rest := []) (v := some (.int (nI 0))) (h1 := (Gc L xs A B U V S d X)) rfl rfl rfl rfl (eg (Nat.le_of_ble_eq_true rfl) (show 21 ≤ lo by omega) (Nat.le_of_ble_eq_true rfl)) (c_can_m_6 hx) ?_
  refine eR.ifc rfl false rfl ?_
  refine eR.step 1 (F' := (9, [(0, .ref 3), (1, .ref 6), (2, .int (x))], [.int (nI 0)])) (h' := (Gc L xs A B U V S d X)) (fun _ _ => rfl) ?_
  exact eR.ret rfl rfl rfl
theorem c_spMap_7 {cm sm fr lo L : Nat} {xs : Nat → Int32} {A B : gT} {U V : gU} {S : gS} {d : Nat → Nat} {X : mj_H} (hlo : 44 ≤ lo) (hd : dk d) {n : Nat} (h : 9 ≤ n ∧ n < 64) : eE mm_P cm sm (fr + 3) lo 37 [.ref 3, .ref 7, .int (nI (n))] (Gc L xs A B U V S d X) (.inl (some (.int (nI 1))), (Gc L xs A B U V S (tb d 3 n) X)) := by
  refine eE.of ?_
  refine eR.step 2 (F' := (2, [(0, .ref 3), (1, .ref 7), (2, .int (nI (n)))], [.int (nI (n)), .ref 7])) (h' := (Gc L xs A B U V S d X)) (fun _ _ => rfl) ?_
  refine eR.call (k' := 38) (as := [.ref 7, .int (nI (n))]) (rest := []) (v := some (.int (nI (bi (decide (9 ≤ n ∧ n < 64)))))) (h1 := (Gc L xs A B U V S d X)) rfl rfl rfl rfl (eg (Nat.le_of_ble_eq_true rfl) (show 21 ≤ lo by omega) (Nat.le_of_ble_eq_true rfl)) (c_can_7 (by omega)) ?_
  rw [bj_t (decide_eq_true h)]
  refine eR.ifc rfl true rfl ?_
  refine eR.step 2 (F' := (12, [(0, .ref 3), (1, .ref 7), (2, .int (nI (n)))], [.int (nI (n)), .ref 7])) (h' := (Gc L xs A B U V S d X)) (fun _ _ => rfl) ?_
  refine eR.call (k' := 39) (as := [.ref 7, .int (nI (n))]) (rest := []) (v := none) (h1 := (Gc L xs A B U V S (tb d 3 n) X)) rfl rfl rfl rfl (eg (Nat.le_of_ble_eq_true rfl) (show 21 ≤ lo by omega) (Nat.le_of_ble_eq_true rfl)) (c_turn_7 (show 23 ≤ lo - 21 by omega) hd (by omega)) ?_
  refine eR.step 1 (F' := (16, [(0, .ref 3), (1, .ref 7), (2, .int (nI (n)))], [.int (nI 1)])) (h' := (Gc L xs A B U V S (tb d 3 n) X)) (fun _ _ => rfl) ?_
  exact eR.ret rfl rfl rfl
theorem c_spMap_7N {cm sm fr lo L : Nat} {xs : Nat → Int32} {A B : gT} {U V : gU} {S : gS} {d : Nat → Nat} {X : mj_H} (hlo : 44 ≤ lo) {n : Nat} (hn : n < 2 ^ 31) (h : ¬ (9 ≤ n ∧ n < 64)) : eE mm_P cm sm (fr + 3) lo 37 [.ref 3, .ref 7, .int (nI (n))] (Gc L xs A B U V S d X) (.inl (some (.int (nI 0))), (Gc L xs A B U V S d X)) := by
  refine eE.of ?_
  refine eR.step 2 (F' := (2, [(0, .ref 3), (1, .ref 7), (2, .int (nI (n)))], [.int (nI (n)), .ref 7])) (h' := (Gc L xs A B U V S d X)) (fun _ _ => rfl) ?_
  refine eR.call (k' := 38) (as := [.ref 7, .int (nI (n))]) (rest := []) (v := some (.int (nI (bi (decide (9 ≤ n ∧ n < 64)))))) (h1 := (Gc L xs A B U V S d X)) rfl rfl rfl rfl (eg (Nat.le_of_ble_eq_true rfl) (show 21 ≤ lo by omega) (Nat.le_of_ble_eq_true rfl)) (c_can_7 (by omega)) ?_
  rw [bj_f (fun z => h (of_decide_eq_true z))]
  refine eR.ifc rfl false rfl ?_
  refine eR.step 1 (F' := (9, [(0, .ref 3), (1, .ref 7), (2, .int (nI (n)))], [.int (nI 0)])) (h' := (Gc L xs A B U V S d X)) (fun _ _ => rfl) ?_
  exact eR.ret rfl rfl rfl
theorem c_spMap_7M {cm sm fr lo L : Nat} {xs : Nat → Int32} {A B : gT} {U V : gU} {S : gS} {d : Nat → Nat} {X : mj_H} (hlo : 44 ≤ lo) {x : Int32} (hx : x < 0) : eE mm_P cm sm (fr + 3) lo 37 [.ref 3, .ref 7, .int (x)] (Gc L xs A B U V S d X) (.inl (some (.int (nI 0))), (Gc L xs A B U V S d X)) := by
  refine eE.of ?_
  refine eR.step 2 (F' := (2, [(0, .ref 3), (1, .ref 7), (2, .int (x))], [.int (x), .ref 7])) (h' := (Gc L xs A B U V S d X)) (fun _ _ => rfl) ?_
  refine eR.call (k' := 38) (as := [.ref 7, .int (x)]) (rest := []) (v := some (.int (nI 0))) (h1 := (Gc L xs A B U V S d X)) rfl rfl rfl rfl (eg (Nat.le_of_ble_eq_true rfl) (show 21 ≤ lo by omega) (Nat.le_of_ble_eq_true rfl)) (c_can_m_7 hx) ?_
  refine eR.ifc rfl false rfl ?_
  refine eR.step 1 (F' := (9, [(0, .ref 3), (1, .ref 7), (2, .int (x))], [.int (nI 0)])) (h' := (Gc L xs A B U V S d X)) (fun _ _ => rfl) ?_
  exact eR.ret rfl rfl rfl
theorem c_spL {cm sm fr lo L : Nat} {xs : Nat → Int32} {A B : gT} {U V : gU} {S : gS} {d : Nat → Nat} {X : mj_H} (hlo : 44 ≤ lo) (hd : dk d) {n : Nat} (h : 1 ≤ n ∧ n < 16) (h1 : d (32 + (16 * n)) ≠ 0) {m : Nat} (hm : m ≤ 255) : eE mm_P cm sm (fr + 3) lo 40 [.ref 3, .int (nI (n)), .int (nI (m))] (Gc L xs A B U V S d X) (.inl (some (.int (nI 1))), (Gc L xs A B U V S (dp d (32 + (16 * n) + 1) m) X)) := by
  refine eE.of ?_
  refine eR.step 3 (F' := (5, [(0, .ref 3), (1, .int (nI (n))), (2, .int (nI (m)))], [.int (nI (n)), .ref 6])) (h' := (Gc L xs A B U V S d X)) (fun _ _ => rfl) ?_
  refine eR.call (k' := 38) (as := [.ref 6, .int (nI (n))]) (rest := []) (v := some (.int (nI (bi (decide (1 ≤ n ∧ n < 16)))))) (h1 := (Gc L xs A B U V S d X)) rfl rfl rfl rfl (eg (Nat.le_of_ble_eq_true rfl) (show 21 ≤ lo by omega) (Nat.le_of_ble_eq_true rfl)) (c_can_6 (by omega)) ?_
  rw [bj_t (decide_eq_true h)]
  refine eR.ifc rfl false rfl ?_
  refine eR.step 3 (F' := (16, [(0, .ref 3), (1, .int (nI (n))), (2, .int (nI (m)))], [.int (nI (n)), .ref 8])) (h' := (Gc L xs A B U V S d X)) (fun _ _ => rfl) ?_
  have h6 := hd.1 (32 + (16 * n))
  refine eR.call (k' := 41) (as := [.ref 8, .int (nI (n))]) (rest := []) (v := some (.int (nI (d (32 + (16 * n)))))) (h1 := (Gc L xs A B U V S d X)) rfl rfl rfl rfl (eg (Nat.le_of_ble_eq_true rfl) (show 21 ≤ lo by omega) (Nat.le_of_ble_eq_true rfl)) (c_kind (show 21 ≤ lo - 21 by omega) hd (by omega)) ?_
  refine eR.ifc rfl false ((nc_eq (b := 0) (by omega) (by decide)).trans (decide_eq_false (by omega))) ?_
  refine eR.step 1 (F' := (23, [(0, .ref 3), (1, .int (nI (n))), (2, .int (nI (m)))], [.int (nI (m))])) (h' := (Gc L xs A B U V S d X)) (fun _ _ => rfl) ?_
  refine eR.ifc rfl false ((nc_lt (b := 0) (by omega) (by decide)).trans (decide_eq_false (by omega))) ?_
  refine eR.step 2 (F' := (30, [(0, .ref 3), (1, .int (nI (n))), (2, .int (nI (m)))], [.int (nI 255), .int (nI (m))])) (h' := (Gc L xs A B U V S d X)) (fun _ _ => rfl) ?_
  refine eR.icmp rfl true ((nc_le (by omega) (by omega)).trans (decide_eq_true (by omega))) ?_
  refine eR.step 4 (F' := (41, [(0, .ref 3), (1, .int (nI (n))), (2, .int (nI (m)))], [.int (nI (m)), .int (nI (n)), .ref 8])) (h' := (Gc L xs A B U V S d X)) (fun _ _ => rfl) ?_
  refine eR.call (k' := 28) (as := [.ref 8, .int (nI (n)), .int (nI (m))]) (rest := []) (v := none) (h1 := (Gc L xs A B U V S (dp d (32 + (16 * n) + 1) m) X)) rfl rfl rfl rfl (eg (Nat.le_of_ble_eq_true rfl) (show 22 ≤ lo by omega) (Nat.le_of_ble_eq_true rfl)) (c_setLinks (show 22 ≤ lo - 22 by omega) (by omega)) ?_
  refine eR.step 1 (F' := (45, [(0, .ref 3), (1, .int (nI (n))), (2, .int (nI (m)))], [.int (nI 1)])) (h' := (Gc L xs A B U V S (dp d (32 + (16 * n) + 1) m) X)) (fun _ _ => rfl) ?_
  exact eR.ret rfl rfl rfl
theorem c_spLN3 {cm sm fr lo L : Nat} {xs : Nat → Int32} {A B : gT} {U V : gU} {S : gS} {d : Nat → Nat} {X : mj_H} (hlo : 44 ≤ lo) (hd : dk d) {n : Nat} (h : 1 ≤ n ∧ n < 16) (h1 : d (32 + (16 * n)) ≠ 0) {m : Nat} (hm : m < 2 ^ 31) (h2 : 255 < m) : eE mm_P cm sm (fr + 3) lo 40 [.ref 3, .int (nI (n)), .int (nI (m))] (Gc L xs A B U V S d X) (.inl (some (.int (nI 0))), (Gc L xs A B U V S d X)) := by
  refine eE.of ?_
  refine eR.step 3 (F' := (5, [(0, .ref 3), (1, .int (nI (n))), (2, .int (nI (m)))], [.int (nI (n)), .ref 6])) (h' := (Gc L xs A B U V S d X)) (fun _ _ => rfl) ?_
  refine eR.call (k' := 38) (as := [.ref 6, .int (nI (n))]) (rest := []) (v := some (.int (nI (bi (decide (1 ≤ n ∧ n < 16)))))) (h1 := (Gc L xs A B U V S d X)) rfl rfl rfl rfl (eg (Nat.le_of_ble_eq_true rfl) (show 21 ≤ lo by omega) (Nat.le_of_ble_eq_true rfl)) (c_can_6 (by omega)) ?_
  rw [bj_t (decide_eq_true h)]
  refine eR.ifc rfl false rfl ?_
  refine eR.step 3 (F' := (16, [(0, .ref 3), (1, .int (nI (n))), (2, .int (nI (m)))], [.int (nI (n)), .ref 8])) (h' := (Gc L xs A B U V S d X)) (fun _ _ => rfl) ?_
  have h6 := hd.1 (32 + (16 * n))
  refine eR.call (k' := 41) (as := [.ref 8, .int (nI (n))]) (rest := []) (v := some (.int (nI (d (32 + (16 * n)))))) (h1 := (Gc L xs A B U V S d X)) rfl rfl rfl rfl (eg (Nat.le_of_ble_eq_true rfl) (show 21 ≤ lo by omega) (Nat.le_of_ble_eq_true rfl)) (c_kind (show 21 ≤ lo - 21 by omega) hd (by omega)) ?_
  refine eR.ifc rfl false ((nc_eq (b := 0) (by omega) (by decide)).trans (decide_eq_false (by omega))) ?_
  refine eR.step 1 (F' := (23, [(0, .ref 3), (1, .int (nI (n))), (2, .int (nI (m)))], [.int (nI (m))])) (h' := (Gc L xs A B U V S d X)) (fun _ _ => rfl) ?_
  refine eR.ifc rfl false ((nc_lt (b := 0) (by omega) (by decide)).trans (decide_eq_false (by omega))) ?_
  refine eR.step 2 (F' := (30, [(0, .ref 3), (1, .int (nI (n))), (2, .int (nI (m)))], [.int (nI 255), .int (nI (m))])) (h' := (Gc L xs A B U V S d X)) (fun _ _ => rfl) ?_
  refine eR.icmp rfl false ((nc_le (by omega) (by omega)).trans (decide_eq_false (by omega))) ?_
  refine eR.step 1 (F' := (34, [(0, .ref 3), (1, .int (nI (n))), (2, .int (nI (m)))], [.int (nI 0)])) (h' := (Gc L xs A B U V S d X)) (fun _ _ => rfl) ?_
  exact eR.ret rfl rfl rfl
theorem c_spLN2 {cm sm fr lo L : Nat} {xs : Nat → Int32} {A B : gT} {U V : gU} {S : gS} {d : Nat → Nat} {X : mj_H} (hlo : 44 ≤ lo) (hd : dk d) {n : Nat} (h : 1 ≤ n ∧ n < 16) (h1 : d (32 + (16 * n)) ≠ 0) {v : Int32} (hv : v < 0) : eE mm_P cm sm (fr + 3) lo 40 [.ref 3, .int (nI (n)), .int (v)] (Gc L xs A B U V S d X) (.inl (some (.int (nI 0))), (Gc L xs A B U V S d X)) := by
  refine eE.of ?_
  refine eR.step 3 (F' := (5, [(0, .ref 3), (1, .int (nI (n))), (2, .int (v))], [.int (nI (n)), .ref 6])) (h' := (Gc L xs A B U V S d X)) (fun _ _ => rfl) ?_
  refine eR.call (k' := 38) (as := [.ref 6, .int (nI (n))]) (rest := []) (v := some (.int (nI (bi (decide (1 ≤ n ∧ n < 16)))))) (h1 := (Gc L xs A B U V S d X)) rfl rfl rfl rfl (eg (Nat.le_of_ble_eq_true rfl) (show 21 ≤ lo by omega) (Nat.le_of_ble_eq_true rfl)) (c_can_6 (by omega)) ?_
  rw [bj_t (decide_eq_true h)]
  refine eR.ifc rfl false rfl ?_
  refine eR.step 3 (F' := (16, [(0, .ref 3), (1, .int (nI (n))), (2, .int (v))], [.int (nI (n)), .ref 8])) (h' := (Gc L xs A B U V S d X)) (fun _ _ => rfl) ?_
  have h6 := hd.1 (32 + (16 * n))
  refine eR.call (k' := 41) (as := [.ref 8, .int (nI (n))]) (rest := []) (v := some (.int (nI (d (32 + (16 * n)))))) (h1 := (Gc L xs A B U V S d X)) rfl rfl rfl rfl (eg (Nat.le_of_ble_eq_true rfl) (show 21 ≤ lo by omega) (Nat.le_of_ble_eq_true rfl)) (c_kind (show 21 ≤ lo - 21 by omega) hd (by omega)) ?_
  refine eR.ifc rfl false ((nc_eq (b := 0) (by omega) (by decide)).trans (decide_eq_false (by omega))) ?_
  refine eR.step 1 (F' := (23, [(0, .ref 3), (1, .int (nI (n))), (2, .int (v))], [.int (v)])) (h' := (Gc L xs A B U V S d X)) (fun _ _ => rfl) ?_
  refine eR.ifc rfl true (decide_eq_true hv) ?_
  refine eR.step 1 (F' := (34, [(0, .ref 3), (1, .int (nI (n))), (2, .int (v))], [.int (nI 0)])) (h' := (Gc L xs A B U V S d X)) (fun _ _ => rfl) ?_
  exact eR.ret rfl rfl rfl
theorem c_spLN1 {cm sm fr lo L : Nat} {xs : Nat → Int32} {A B : gT} {U V : gU} {S : gS} {d : Nat → Nat} {X : mj_H} (hlo : 44 ≤ lo) (hd : dk d) {n : Nat} (h : 1 ≤ n ∧ n < 16) (h1 : d (32 + (16 * n)) = 0) {v : Int32} : eE mm_P cm sm (fr + 3) lo 40 [.ref 3, .int (nI (n)), .int (v)] (Gc L xs A B U V S d X) (.inl (some (.int (nI 0))), (Gc L xs A B U V S d X)) := by
  refine eE.of ?_
  refine eR.step 3 (F' := (5, [(0, .ref 3), (1, .int (nI (n))), (2, .int (v))], [.int (nI (n)), .ref 6])) (h' := (Gc L xs A B U V S d X)) (fun _ _ => rfl) ?_
  refine eR.call (k' := 38) (as := [.ref 6, .int (nI (n))]) (rest := []) (v := some (.int (nI (bi (decide (1 ≤ n ∧ n < 16)))))) (h1 := (Gc L xs A B U V S d X)) rfl rfl rfl rfl (eg (Nat.le_of_ble_eq_true rfl) (show 21 ≤ lo by omega) (Nat.le_of_ble_eq_true rfl)) (c_can_6 (by omega)) ?_
  rw [bj_t (decide_eq_true h)]
  refine eR.ifc rfl false rfl ?_
  refine eR.step 3 (F' := (16, [(0, .ref 3), (1, .int (nI (n))), (2, .int (v))], [.int (nI (n)), .ref 8])) (h' := (Gc L xs A B U V S d X)) (fun _ _ => rfl) ?_
  have h6 := hd.1 (32 + (16 * n))
  refine eR.call (k' := 41) (as := [.ref 8, .int (nI (n))]) (rest := []) (v := some (.int (nI (d (32 + (16 * n)))))) (h1 := (Gc L xs A B U V S d X)) rfl rfl rfl rfl (eg (Nat.le_of_ble_eq_true rfl) (show 21 ≤ lo by omega) (Nat.le_of_ble_eq_true rfl)) (c_kind (show 21 ≤ lo - 21 by omega) hd (by omega)) ?_
  refine eR.ifc rfl true ((nc_eq (b := 0) (by omega) (by decide)).trans (decide_eq_true (by omega))) ?_
  refine eR.step 1 (F' := (34, [(0, .ref 3), (1, .int (nI (n))), (2, .int (v))], [.int (nI 0)])) (h' := (Gc L xs A B U V S d X)) (fun _ _ => rfl) ?_
  exact eR.ret rfl rfl rfl
theorem c_spLN0 {cm sm fr lo L : Nat} {xs : Nat → Int32} {A B : gT} {U V : gU} {S : gS} {d : Nat → Nat} {X : mj_H} (hlo : 44 ≤ lo) {n : Nat} (hn : n < 2 ^ 31) (h : ¬ (1 ≤ n ∧ n < 16)) {v : Int32} : eE mm_P cm sm (fr + 3) lo 40 [.ref 3, .int (nI (n)), .int (v)] (Gc L xs A B U V S d X) (.inl (some (.int (nI 0))), (Gc L xs A B U V S d X)) := by
  refine eE.of ?_
  refine eR.step 3 (F' := (5, [(0, .ref 3), (1, .int (nI (n))), (2, .int (v))], [.int (nI (n)), .ref 6])) (h' := (Gc L xs A B U V S d X)) (fun _ _ => rfl) ?_
  refine eR.call (k' := 38) (as := [.ref 6, .int (nI (n))]) (rest := []) (v := some (.int (nI (bi (decide (1 ≤ n ∧ n < 16)))))) (h1 := (Gc L xs A B U V S d X)) rfl rfl rfl rfl (eg (Nat.le_of_ble_eq_true rfl) (show 21 ≤ lo by omega) (Nat.le_of_ble_eq_true rfl)) (c_can_6 (by omega)) ?_
  rw [bj_f (fun z => h (of_decide_eq_true z))]
  refine eR.ifc rfl true rfl ?_
  refine eR.step 1 (F' := (34, [(0, .ref 3), (1, .int (nI (n))), (2, .int (v))], [.int (nI 0)])) (h' := (Gc L xs A B U V S d X)) (fun _ _ => rfl) ?_
  exact eR.ret rfl rfl rfl
theorem c_spLNM {cm sm fr lo L : Nat} {xs : Nat → Int32} {A B : gT} {U V : gU} {S : gS} {d : Nat → Nat} {X : mj_H} (hlo : 44 ≤ lo) {x : Int32} (hx : x < 0) {v : Int32} : eE mm_P cm sm (fr + 3) lo 40 [.ref 3, .int (x), .int (v)] (Gc L xs A B U V S d X) (.inl (some (.int (nI 0))), (Gc L xs A B U V S d X)) := by
  refine eE.of ?_
  refine eR.step 3 (F' := (5, [(0, .ref 3), (1, .int (x)), (2, .int (v))], [.int (x), .ref 6])) (h' := (Gc L xs A B U V S d X)) (fun _ _ => rfl) ?_
  refine eR.call (k' := 38) (as := [.ref 6, .int (x)]) (rest := []) (v := some (.int (nI 0))) (h1 := (Gc L xs A B U V S d X)) rfl rfl rfl rfl (eg (Nat.le_of_ble_eq_true rfl) (show 21 ≤ lo by omega) (Nat.le_of_ble_eq_true rfl)) (c_can_m_6 hx) ?_
  refine eR.ifc rfl true rfl ?_
  refine eR.step 1 (F' := (34, [(0, .ref 3), (1, .int (x)), (2, .int (v))], [.int (nI 0)])) (h' := (Gc L xs A B U V S d X)) (fun _ _ => rfl) ?_
  exact eR.ret rfl rfl rfl
theorem c_spoil0 {cm sm fr lo L : Nat} {xs : Nat → Int32} {A B : gT} {U V : gU} {S : gS} {d : Nat → Nat} {X : mj_H} (hlo : 66 ≤ lo) (hd : dk d) {n : Nat} (h : 1 ≤ n ∧ n < 16) {v : Int32} : eE mm_P cm sm (fr + 4) lo 36 [.ref 3, .int (nI 0), .int (nI (n)), .int (v)] (Gc L xs A B U V S d X) (.inl (some (.int (nI 1))), (Gc L xs A B U V S (dp (tb d 1 n) 11 0) X)) := by
  refine eE.of ?_
  refine eR.step 3 (F' := (4, [(0, .ref 3), (1, .int (nI 0)), (2, .int (nI (n))), (3, .int (v)), (4, .int (nI 0))], [.int (nI 0)])) (h' := (Gc L xs A B U V S d X)) (fun _ _ => rfl) ?_
  refine eR.ifc rfl false rfl ?_
  refine eR.step 4 (F' := (13, [(0, .ref 3), (1, .int (nI 0)), (2, .int (nI (n))), (3, .int (v)), (4, .int (nI 0))], [.int (nI (n)), .ref 6, .ref 3])) (h' := (Gc L xs A B U V S d X)) (fun _ _ => rfl) ?_
  refine eR.call (k' := 37) (as := [.ref 3, .ref 6, .int (nI (n))]) (rest := []) (v := some (.int (nI 1))) (h1 := (Gc L xs A B U V S (tb d 1 n) X)) rfl rfl rfl rfl (eg (Nat.le_of_ble_eq_true rfl) (show 22 ≤ lo by omega) (Nat.le_of_ble_eq_true rfl)) (c_spMap_6 (show 44 ≤ lo - 22 by omega) hd h) ?_
  refine eR.step 3 (F' := (55, [(0, .ref 3), (1, .int (nI 0)), (2, .int (nI (n))), (3, .int (v)), (4, .int (nI 1))], [.int (nI 1)])) (h' := (Gc L xs A B U V S (tb d 1 n) X)) (fun _ _ => rfl) ?_
  refine eR.ifc rfl false rfl ?_
  refine eR.step 2 (F' := (60, [(0, .ref 3), (1, .int (nI 0)), (2, .int (nI (n))), (3, .int (v)), (4, .int (nI 1))], [.int (nI 0), .ref 3])) (h' := (Gc L xs A B U V S (tb d 1 n) X)) (fun _ _ => rfl) ?_
  refine eR.call (k' := 29) (as := [.ref 3, .int (nI 0)]) (rest := []) (v := none) (h1 := (Gc L xs A B U V S (dp (tb d 1 n) 11 0) X)) rfl rfl rfl rfl (eg (Nat.le_of_ble_eq_true rfl) (show 21 ≤ lo by omega) (Nat.le_of_ble_eq_true rfl)) (c_setClean (b := false) (show 22 ≤ lo - 21 by omega)) ?_
  refine eR.step 1 (F' := (65, [(0, .ref 3), (1, .int (nI 0)), (2, .int (nI (n))), (3, .int (v)), (4, .int (nI 1))], [.int (nI 1)])) (h' := (Gc L xs A B U V S (dp (tb d 1 n) 11 0) X)) (fun _ _ => rfl) ?_
  exact eR.ret rfl rfl rfl
theorem c_spoil0N {cm sm fr lo L : Nat} {xs : Nat → Int32} {A B : gT} {U V : gU} {S : gS} {d : Nat → Nat} {X : mj_H} (hlo : 66 ≤ lo) {n : Nat} (hn : n < 2 ^ 31) (h : ¬ (1 ≤ n ∧ n < 16)) {v : Int32} : eE mm_P cm sm (fr + 4) lo 36 [.ref 3, .int (nI 0), .int (nI (n)), .int (v)] (Gc L xs A B U V S d X) (.inl (some (.int (nI 0))), (Gc L xs A B U V S d X)) := by
  refine eE.of ?_
  refine eR.step 3 (F' := (4, [(0, .ref 3), (1, .int (nI 0)), (2, .int (nI (n))), (3, .int (v)), (4, .int (nI 0))], [.int (nI 0)])) (h' := (Gc L xs A B U V S d X)) (fun _ _ => rfl) ?_
  refine eR.ifc rfl false rfl ?_
  refine eR.step 4 (F' := (13, [(0, .ref 3), (1, .int (nI 0)), (2, .int (nI (n))), (3, .int (v)), (4, .int (nI 0))], [.int (nI (n)), .ref 6, .ref 3])) (h' := (Gc L xs A B U V S d X)) (fun _ _ => rfl) ?_
  refine eR.call (k' := 37) (as := [.ref 3, .ref 6, .int (nI (n))]) (rest := []) (v := some (.int (nI 0))) (h1 := (Gc L xs A B U V S d X)) rfl rfl rfl rfl (eg (Nat.le_of_ble_eq_true rfl) (show 22 ≤ lo by omega) (Nat.le_of_ble_eq_true rfl)) (c_spMap_6N (show 44 ≤ lo - 22 by omega) hn h) ?_
  refine eR.step 3 (F' := (55, [(0, .ref 3), (1, .int (nI 0)), (2, .int (nI (n))), (3, .int (v)), (4, .int (nI 0))], [.int (nI 0)])) (h' := (Gc L xs A B U V S d X)) (fun _ _ => rfl) ?_
  refine eR.ifc rfl true rfl ?_
  refine eR.step 1 (F' := (65, [(0, .ref 3), (1, .int (nI 0)), (2, .int (nI (n))), (3, .int (v)), (4, .int (nI 0))], [.int (nI 0)])) (h' := (Gc L xs A B U V S d X)) (fun _ _ => rfl) ?_
  exact eR.ret rfl rfl rfl
theorem c_spoil0M {cm sm fr lo L : Nat} {xs : Nat → Int32} {A B : gT} {U V : gU} {S : gS} {d : Nat → Nat} {X : mj_H} (hlo : 66 ≤ lo) {x : Int32} (hx : x < 0) {v : Int32} : eE mm_P cm sm (fr + 4) lo 36 [.ref 3, .int (nI 0), .int (x), .int (v)] (Gc L xs A B U V S d X) (.inl (some (.int (nI 0))), (Gc L xs A B U V S d X)) := by
  refine eE.of ?_
  refine eR.step 3 (F' := (4, [(0, .ref 3), (1, .int (nI 0)), (2, .int (x)), (3, .int (v)), (4, .int (nI 0))], [.int (nI 0)])) (h' := (Gc L xs A B U V S d X)) (fun _ _ => rfl) ?_
  refine eR.ifc rfl false rfl ?_
  refine eR.step 4 (F' := (13, [(0, .ref 3), (1, .int (nI 0)), (2, .int (x)), (3, .int (v)), (4, .int (nI 0))], [.int (x), .ref 6, .ref 3])) (h' := (Gc L xs A B U V S d X)) (fun _ _ => rfl) ?_
  refine eR.call (k' := 37) (as := [.ref 3, .ref 6, .int (x)]) (rest := []) (v := some (.int (nI 0))) (h1 := (Gc L xs A B U V S d X)) rfl rfl rfl rfl (eg (Nat.le_of_ble_eq_true rfl) (show 22 ≤ lo by omega) (Nat.le_of_ble_eq_true rfl)) (c_spMap_6M (show 44 ≤ lo - 22 by omega) hx) ?_
  refine eR.step 3 (F' := (55, [(0, .ref 3), (1, .int (nI 0)), (2, .int (x)), (3, .int (v)), (4, .int (nI 0))], [.int (nI 0)])) (h' := (Gc L xs A B U V S d X)) (fun _ _ => rfl) ?_
  refine eR.ifc rfl true rfl ?_
  refine eR.step 1 (F' := (65, [(0, .ref 3), (1, .int (nI 0)), (2, .int (x)), (3, .int (v)), (4, .int (nI 0))], [.int (nI 0)])) (h' := (Gc L xs A B U V S d X)) (fun _ _ => rfl) ?_
  exact eR.ret rfl rfl rfl
theorem c_spoil1 {cm sm fr lo L : Nat} {xs : Nat → Int32} {A B : gT} {U V : gU} {S : gS} {d : Nat → Nat} {X : mj_H} (hlo : 66 ≤ lo) (hd : dk d) {n : Nat} (h : 9 ≤ n ∧ n < 64) {v : Int32} : eE mm_P cm sm (fr + 4) lo 36 [.ref 3, .int (nI 1), .int (nI (n)), .int (v)] (Gc L xs A B U V S d X) (.inl (some (.int (nI 1))), (Gc L xs A B U V S (dp (tb d 3 n) 11 0) X)) := by
  refine eE.of ?_
  refine eR.step 3 (F' := (4, [(0, .ref 3), (1, .int (nI 1)), (2, .int (nI (n))), (3, .int (v)), (4, .int (nI 0))], [.int (nI 1)])) (h' := (Gc L xs A B U V S d X)) (fun _ _ => rfl) ?_
  refine eR.ifc rfl true rfl ?_
  refine eR.step 2 (F' := (23, [(0, .ref 3), (1, .int (nI 1)), (2, .int (nI (n))), (3, .int (v)), (4, .int (nI 0))], [.int (nI 1), .int (nI 1)])) (h' := (Gc L xs A B U V S d X)) (fun _ _ => rfl) ?_
  refine eR.icmp rfl false rfl ?_
  refine eR.step 4 (F' := (32, [(0, .ref 3), (1, .int (nI 1)), (2, .int (nI (n))), (3, .int (v)), (4, .int (nI 0))], [.int (nI (n)), .ref 7, .ref 3])) (h' := (Gc L xs A B U V S d X)) (fun _ _ => rfl) ?_
  refine eR.call (k' := 37) (as := [.ref 3, .ref 7, .int (nI (n))]) (rest := []) (v := some (.int (nI 1))) (h1 := (Gc L xs A B U V S (tb d 3 n) X)) rfl rfl rfl rfl (eg (Nat.le_of_ble_eq_true rfl) (show 22 ≤ lo by omega) (Nat.le_of_ble_eq_true rfl)) (c_spMap_7 (show 44 ≤ lo - 22 by omega) hd h) ?_
  refine eR.step 3 (F' := (55, [(0, .ref 3), (1, .int (nI 1)), (2, .int (nI (n))), (3, .int (v)), (4, .int (nI 1))], [.int (nI 1)])) (h' := (Gc L xs A B U V S (tb d 3 n) X)) (fun _ _ => rfl) ?_
  refine eR.ifc rfl false rfl ?_
  refine eR.step 2 (F' := (60, [(0, .ref 3), (1, .int (nI 1)), (2, .int (nI (n))), (3, .int (v)), (4, .int (nI 1))], [.int (nI 0), .ref 3])) (h' := (Gc L xs A B U V S (tb d 3 n) X)) (fun _ _ => rfl) ?_
  refine eR.call (k' := 29) (as := [.ref 3, .int (nI 0)]) (rest := []) (v := none) (h1 := (Gc L xs A B U V S (dp (tb d 3 n) 11 0) X)) rfl rfl rfl rfl (eg (Nat.le_of_ble_eq_true rfl) (show 21 ≤ lo by omega) (Nat.le_of_ble_eq_true rfl)) (c_setClean (b := false) (show 22 ≤ lo - 21 by omega)) ?_
  refine eR.step 1 (F' := (65, [(0, .ref 3), (1, .int (nI 1)), (2, .int (nI (n))), (3, .int (v)), (4, .int (nI 1))], [.int (nI 1)])) (h' := (Gc L xs A B U V S (dp (tb d 3 n) 11 0) X)) (fun _ _ => rfl) ?_
  exact eR.ret rfl rfl rfl
theorem c_spoil1N {cm sm fr lo L : Nat} {xs : Nat → Int32} {A B : gT} {U V : gU} {S : gS} {d : Nat → Nat} {X : mj_H} (hlo : 66 ≤ lo) {n : Nat} (hn : n < 2 ^ 31) (h : ¬ (9 ≤ n ∧ n < 64)) {v : Int32} : eE mm_P cm sm (fr + 4) lo 36 [.ref 3, .int (nI 1), .int (nI (n)), .int (v)] (Gc L xs A B U V S d X) (.inl (some (.int (nI 0))), (Gc L xs A B U V S d X)) := by
  refine eE.of ?_
  refine eR.step 3 (F' := (4, [(0, .ref 3), (1, .int (nI 1)), (2, .int (nI (n))), (3, .int (v)), (4, .int (nI 0))], [.int (nI 1)])) (h' := (Gc L xs A B U V S d X)) (fun _ _ => rfl) ?_
  refine eR.ifc rfl true rfl ?_
  refine eR.step 2 (F' := (23, [(0, .ref 3), (1, .int (nI 1)), (2, .int (nI (n))), (3, .int (v)), (4, .int (nI 0))], [.int (nI 1), .int (nI 1)])) (h' := (Gc L xs A B U V S d X)) (fun _ _ => rfl) ?_
  refine eR.icmp rfl false rfl ?_
  refine eR.step 4 (F' := (32, [(0, .ref 3), (1, .int (nI 1)), (2, .int (nI (n))), (3, .int (v)), (4, .int (nI 0))], [.int (nI (n)), .ref 7, .ref 3])) (h' := (Gc L xs A B U V S d X)) (fun _ _ => rfl) ?_
  refine eR.call (k' := 37) (as := [.ref 3, .ref 7, .int (nI (n))]) (rest := []) (v := some (.int (nI 0))) (h1 := (Gc L xs A B U V S d X)) rfl rfl rfl rfl (eg (Nat.le_of_ble_eq_true rfl) (show 22 ≤ lo by omega) (Nat.le_of_ble_eq_true rfl)) (c_spMap_7N (show 44 ≤ lo - 22 by omega) hn h) ?_
  refine eR.step 3 (F' := (55, [(0, .ref 3), (1, .int (nI 1)), (2, .int (nI (n))), (3, .int (v)), (4, .int (nI 0))], [.int (nI 0)])) (h' := (Gc L xs A B U V S d X)) (fun _ _ => rfl) ?_
  refine eR.ifc rfl true rfl ?_
  refine eR.step 1 (F' := (65, [(0, .ref 3), (1, .int (nI 1)), (2, .int (nI (n))), (3, .int (v)), (4, .int (nI 0))], [.int (nI 0)])) (h' := (Gc L xs A B U V S d X)) (fun _ _ => rfl) ?_
  exact eR.ret rfl rfl rfl
theorem c_spoil1M {cm sm fr lo L : Nat} {xs : Nat → Int32} {A B : gT} {U V : gU} {S : gS} {d : Nat → Nat} {X : mj_H} (hlo : 66 ≤ lo) {x : Int32} (hx : x < 0) {v : Int32} : eE mm_P cm sm (fr + 4) lo 36 [.ref 3, .int (nI 1), .int (x), .int (v)] (Gc L xs A B U V S d X) (.inl (some (.int (nI 0))), (Gc L xs A B U V S d X)) := by
  refine eE.of ?_
  refine eR.step 3 (F' := (4, [(0, .ref 3), (1, .int (nI 1)), (2, .int (x)), (3, .int (v)), (4, .int (nI 0))], [.int (nI 1)])) (h' := (Gc L xs A B U V S d X)) (fun _ _ => rfl) ?_
  refine eR.ifc rfl true rfl ?_
  refine eR.step 2 (F' := (23, [(0, .ref 3), (1, .int (nI 1)), (2, .int (x)), (3, .int (v)), (4, .int (nI 0))], [.int (nI 1), .int (nI 1)])) (h' := (Gc L xs A B U V S d X)) (fun _ _ => rfl) ?_
  refine eR.icmp rfl false rfl ?_
  refine eR.step 4 (F' := (32, [(0, .ref 3), (1, .int (nI 1)), (2, .int (x)), (3, .int (v)), (4, .int (nI 0))], [.int (x), .ref 7, .ref 3])) (h' := (Gc L xs A B U V S d X)) (fun _ _ => rfl) ?_
  refine eR.call (k' := 37) (as := [.ref 3, .ref 7, .int (x)]) (rest := []) (v := some (.int (nI 0))) (h1 := (Gc L xs A B U V S d X)) rfl rfl rfl rfl (eg (Nat.le_of_ble_eq_true rfl) (show 22 ≤ lo by omega) (Nat.le_of_ble_eq_true rfl)) (c_spMap_7M (show 44 ≤ lo - 22 by omega) hx) ?_
  refine eR.step 3 (F' := (55, [(0, .ref 3), (1, .int (nI 1)), (2, .int (x)), (3, .int (v)), (4, .int (nI 0))], [.int (nI 0)])) (h' := (Gc L xs A B U V S d X)) (fun _ _ => rfl) ?_
  refine eR.ifc rfl true rfl ?_
  refine eR.step 1 (F' := (65, [(0, .ref 3), (1, .int (nI 1)), (2, .int (x)), (3, .int (v)), (4, .int (nI 0))], [.int (nI 0)])) (h' := (Gc L xs A B U V S d X)) (fun _ _ => rfl) ?_
  exact eR.ret rfl rfl rfl
theorem c_spoil2 {cm sm fr lo L : Nat} {xs : Nat → Int32} {A B : gT} {U V : gU} {S : gS} {d : Nat → Nat} {X : mj_H} (hlo : 66 ≤ lo) (hd : dk d) {n : Nat} (h : 1 ≤ n ∧ n < 16) (h1 : d (32 + (16 * n)) ≠ 0) {m : Nat} (hm : m ≤ 255) : eE mm_P cm sm (fr + 4) lo 36 [.ref 3, .int (nI 2), .int (nI (n)), .int (nI (m))] (Gc L xs A B U V S d X) (.inl (some (.int (nI 1))), (Gc L xs A B U V S (dp (dp d (32 + (16 * n) + 1) m) 11 0) X)) := by
  refine eE.of ?_
  refine eR.step 3 (F' := (4, [(0, .ref 3), (1, .int (nI 2)), (2, .int (nI (n))), (3, .int (nI (m))), (4, .int (nI 0))], [.int (nI 2)])) (h' := (Gc L xs A B U V S d X)) (fun _ _ => rfl) ?_
  refine eR.ifc rfl true rfl ?_
  refine eR.step 2 (F' := (23, [(0, .ref 3), (1, .int (nI 2)), (2, .int (nI (n))), (3, .int (nI (m))), (4, .int (nI 0))], [.int (nI 1), .int (nI 2)])) (h' := (Gc L xs A B U V S d X)) (fun _ _ => rfl) ?_
  refine eR.icmp rfl true rfl ?_
  refine eR.step 2 (F' := (42, [(0, .ref 3), (1, .int (nI 2)), (2, .int (nI (n))), (3, .int (nI (m))), (4, .int (nI 0))], [.int (nI 2), .int (nI 2)])) (h' := (Gc L xs A B U V S d X)) (fun _ _ => rfl) ?_
  refine eR.icmp rfl false rfl ?_
  refine eR.step 3 (F' := (48, [(0, .ref 3), (1, .int (nI 2)), (2, .int (nI (n))), (3, .int (nI (m))), (4, .int (nI 0))], [.int (nI (m)), .int (nI (n)), .ref 3])) (h' := (Gc L xs A B U V S d X)) (fun _ _ => rfl) ?_
  refine eR.call (k' := 40) (as := [.ref 3, .int (nI (n)), .int (nI (m))]) (rest := []) (v := some (.int (nI 1))) (h1 := (Gc L xs A B U V S (dp d (32 + (16 * n) + 1) m) X)) rfl rfl rfl rfl (eg (Nat.le_of_ble_eq_true rfl) (show 22 ≤ lo by omega) (Nat.le_of_ble_eq_true rfl)) (c_spL (show 44 ≤ lo - 22 by omega) hd h h1 hm) ?_
  refine eR.step 2 (F' := (55, [(0, .ref 3), (1, .int (nI 2)), (2, .int (nI (n))), (3, .int (nI (m))), (4, .int (nI 1))], [.int (nI 1)])) (h' := (Gc L xs A B U V S (dp d (32 + (16 * n) + 1) m) X)) (fun _ _ => rfl) ?_
  refine eR.ifc rfl false rfl ?_
  refine eR.step 2 (F' := (60, [(0, .ref 3), (1, .int (nI 2)), (2, .int (nI (n))), (3, .int (nI (m))), (4, .int (nI 1))], [.int (nI 0), .ref 3])) (h' := (Gc L xs A B U V S (dp d (32 + (16 * n) + 1) m) X)) (fun _ _ => rfl) ?_
  refine eR.call (k' := 29) (as := [.ref 3, .int (nI 0)]) (rest := []) (v := none) (h1 := (Gc L xs A B U V S (dp (dp d (32 + (16 * n) + 1) m) 11 0) X)) rfl rfl rfl rfl (eg (Nat.le_of_ble_eq_true rfl) (show 21 ≤ lo by omega) (Nat.le_of_ble_eq_true rfl)) (c_setClean (b := false) (show 22 ≤ lo - 21 by omega)) ?_
  refine eR.step 1 (F' := (65, [(0, .ref 3), (1, .int (nI 2)), (2, .int (nI (n))), (3, .int (nI (m))), (4, .int (nI 1))], [.int (nI 1)])) (h' := (Gc L xs A B U V S (dp (dp d (32 + (16 * n) + 1) m) 11 0) X)) (fun _ _ => rfl) ?_
  exact eR.ret rfl rfl rfl
theorem c_spoil2N3 {cm sm fr lo L : Nat} {xs : Nat → Int32} {A B : gT} {U V : gU} {S : gS} {d : Nat → Nat} {X : mj_H} (hlo : 66 ≤ lo) (hd : dk d) {n : Nat} (h : 1 ≤ n ∧ n < 16) (h1 : d (32 + (16 * n)) ≠ 0) {m : Nat} (hm : m < 2 ^ 31) (h2 : 255 < m) : eE mm_P cm sm (fr + 4) lo 36 [.ref 3, .int (nI 2), .int (nI (n)), .int (nI (m))] (Gc L xs A B U V S d X) (.inl (some (.int (nI 0))), (Gc L xs A B U V S d X)) := by
  refine eE.of ?_
  refine eR.step 3 (F' := (4, [(0, .ref 3), (1, .int (nI 2)), (2, .int (nI (n))), (3, .int (nI (m))), (4, .int (nI 0))], [.int (nI 2)])) (h' := (Gc L xs A B U V S d X)) (fun _ _ => rfl) ?_
  refine eR.ifc rfl true rfl ?_
  refine eR.step 2 (F' := (23, [(0, .ref 3), (1, .int (nI 2)), (2, .int (nI (n))), (3, .int (nI (m))), (4, .int (nI 0))], [.int (nI 1), .int (nI 2)])) (h' := (Gc L xs A B U V S d X)) (fun _ _ => rfl) ?_
  refine eR.icmp rfl true rfl ?_
  refine eR.step 2 (F' := (42, [(0, .ref 3), (1, .int (nI 2)), (2, .int (nI (n))), (3, .int (nI (m))), (4, .int (nI 0))], [.int (nI 2), .int (nI 2)])) (h' := (Gc L xs A B U V S d X)) (fun _ _ => rfl) ?_
  refine eR.icmp rfl false rfl ?_
  refine eR.step 3 (F' := (48, [(0, .ref 3), (1, .int (nI 2)), (2, .int (nI (n))), (3, .int (nI (m))), (4, .int (nI 0))], [.int (nI (m)), .int (nI (n)), .ref 3])) (h' := (Gc L xs A B U V S d X)) (fun _ _ => rfl) ?_
  refine eR.call (k' := 40) (as := [.ref 3, .int (nI (n)), .int (nI (m))]) (rest := []) (v := some (.int (nI 0))) (h1 := (Gc L xs A B U V S d X)) rfl rfl rfl rfl (eg (Nat.le_of_ble_eq_true rfl) (show 22 ≤ lo by omega) (Nat.le_of_ble_eq_true rfl)) (c_spLN3 (show 44 ≤ lo - 22 by omega) hd h h1 hm h2) ?_
  refine eR.step 2 (F' := (55, [(0, .ref 3), (1, .int (nI 2)), (2, .int (nI (n))), (3, .int (nI (m))), (4, .int (nI 0))], [.int (nI 0)])) (h' := (Gc L xs A B U V S d X)) (fun _ _ => rfl) ?_
  refine eR.ifc rfl true rfl ?_
  refine eR.step 1 (F' := (65, [(0, .ref 3), (1, .int (nI 2)), (2, .int (nI (n))), (3, .int (nI (m))), (4, .int (nI 0))], [.int (nI 0)])) (h' := (Gc L xs A B U V S d X)) (fun _ _ => rfl) ?_
  exact eR.ret rfl rfl rfl
theorem c_spoil2N2 {cm sm fr lo L : Nat} {xs : Nat → Int32} {A B : gT} {U V : gU} {S : gS} {d : Nat → Nat} {X : mj_H} (hlo : 66 ≤ lo) (hd : dk d) {n : Nat} (h : 1 ≤ n ∧ n < 16) (h1 : d (32 + (16 * n)) ≠ 0) {v : Int32} (hv : v < 0) : eE mm_P cm sm (fr + 4) lo 36 [.ref 3, .int (nI 2), .int (nI (n)), .int (v)] (Gc L xs A B U V S d X) (.inl (some (.int (nI 0))), (Gc L xs A B U V S d X)) := by
  refine eE.of ?_
  refine eR.step 3 (F' := (4, [(0, .ref 3), (1, .int (nI 2)), (2, .int (nI (n))), (3, .int (v)), (4, .int (nI 0))], [.int (nI 2)])) (h' := (Gc L xs A B U V S d X)) (fun _ _ => rfl) ?_
  refine eR.ifc rfl true rfl ?_
  refine eR.step 2 (F' := (23, [(0, .ref 3), (1, .int (nI 2)), (2, .int (nI (n))), (3, .int (v)), (4, .int (nI 0))], [.int (nI 1), .int (nI 2)])) (h' := (Gc L xs A B U V S d X)) (fun _ _ => rfl) ?_
  refine eR.icmp rfl true rfl ?_
  refine eR.step 2 (F' := (42, [(0, .ref 3), (1, .int (nI 2)), (2, .int (nI (n))), (3, .int (v)), (4, .int (nI 0))], [.int (nI 2), .int (nI 2)])) (h' := (Gc L xs A B U V S d X)) (fun _ _ => rfl) ?_
  refine eR.icmp rfl false rfl ?_
  refine eR.step 3 (F' := (48, [(0, .ref 3), (1, .int (nI 2)), (2, .int (nI (n))), (3, .int (v)), (4, .int (nI 0))], [.int (v), .int (nI (n)), .ref 3])) (h' := (Gc L xs A B U V S d X)) (fun _ _ => rfl) ?_
  refine eR.call (k' := 40) (as := [.ref 3, .int (nI (n)), .int (v)]) (rest := []) (v := some (.int (nI 0))) (h1 := (Gc L xs A B U V S d X)) rfl rfl rfl rfl (eg (Nat.le_of_ble_eq_true rfl) (show 22 ≤ lo by omega) (Nat.le_of_ble_eq_true rfl)) (c_spLN2 (show 44 ≤ lo - 22 by omega) hd h h1 hv) ?_
  refine eR.step 2 (F' := (55, [(0, .ref 3), (1, .int (nI 2)), (2, .int (nI (n))), (3, .int (v)), (4, .int (nI 0))], [.int (nI 0)])) (h' := (Gc L xs A B U V S d X)) (fun _ _ => rfl) ?_
  refine eR.ifc rfl true rfl ?_
  refine eR.step 1 (F' := (65, [(0, .ref 3), (1, .int (nI 2)), (2, .int (nI (n))), (3, .int (v)), (4, .int (nI 0))], [.int (nI 0)])) (h' := (Gc L xs A B U V S d X)) (fun _ _ => rfl) ?_
  exact eR.ret rfl rfl rfl
theorem c_spoil2N1 {cm sm fr lo L : Nat} {xs : Nat → Int32} {A B : gT} {U V : gU} {S : gS} {d : Nat → Nat} {X : mj_H} (hlo : 66 ≤ lo) (hd : dk d) {n : Nat} (h : 1 ≤ n ∧ n < 16) (h1 : d (32 + (16 * n)) = 0) {v : Int32} : eE mm_P cm sm (fr + 4) lo 36 [.ref 3, .int (nI 2), .int (nI (n)), .int (v)] (Gc L xs A B U V S d X) (.inl (some (.int (nI 0))), (Gc L xs A B U V S d X)) := by
  refine eE.of ?_
  refine eR.step 3 (F' := (4, [(0, .ref 3), (1, .int (nI 2)), (2, .int (nI (n))), (3, .int (v)), (4, .int (nI 0))], [.int (nI 2)])) (h' := (Gc L xs A B U V S d X)) (fun _ _ => rfl) ?_
  refine eR.ifc rfl true rfl ?_
  refine eR.step 2 (F' := (23, [(0, .ref 3), (1, .int (nI 2)), (2, .int (nI (n))), (3, .int (v)), (4, .int (nI 0))], [.int (nI 1), .int (nI 2)])) (h' := (Gc L xs A B U V S d X)) (fun _ _ => rfl) ?_
  refine eR.icmp rfl true rfl ?_
  refine eR.step 2 (F' := (42, [(0, .ref 3), (1, .int (nI 2)), (2, .int (nI (n))), (3, .int (v)), (4, .int (nI 0))], [.int (nI 2), .int (nI 2)])) (h' := (Gc L xs A B U V S d X)) (fun _ _ => rfl) ?_
  refine eR.icmp rfl false rfl ?_
  refine eR.step 3 (F' := (48, [(0, .ref 3), (1, .int (nI 2)), (2, .int (nI (n))), (3, .int (v)), (4, .int (nI 0))], [.int (v), .int (nI (n)), .ref 3])) (h' := (Gc L xs A B U V S d X)) (fun _ _ => rfl) ?_
  refine eR.call (k' := 40) (as := [.ref 3, .int (nI (n)), .int (v)]) (rest := []) (v := some (.int (nI 0))) (h1 := (Gc L xs A B U V S d X)) rfl rfl rfl rfl (eg (Nat.le_of_ble_eq_true rfl) (show 22 ≤ lo by omega) (Nat.le_of_ble_eq_true rfl)) (c_spLN1 (show 44 ≤ lo - 22 by omega) hd h h1) ?_
  refine eR.step 2 (F' := (55, [(0, .ref 3), (1, .int (nI 2)), (2, .int (nI (n))), (3, .int (v)), (4, .int (nI 0))], [.int (nI 0)])) (h' := (Gc L xs A B U V S d X)) (fun _ _ => rfl) ?_
  refine eR.ifc rfl true rfl ?_
  refine eR.step 1 (F' := (65, [(0, .ref 3), (1, .int (nI 2)), (2, .int (nI (n))), (3, .int (v)), (4, .int (nI 0))], [.int (nI 0)])) (h' := (Gc L xs A B U V S d X)) (fun _ _ => rfl) ?_
  exact eR.ret rfl rfl rfl
theorem c_spoil2N0 {cm sm fr lo L : Nat} {xs : Nat → Int32} {A B : gT} {U V : gU} {S : gS} {d : Nat → Nat} {X : mj_H} (hlo : 66 ≤ lo) {n : Nat} (hn : n < 2 ^ 31) (h : ¬ (1 ≤ n ∧ n < 16)) {v : Int32} : eE mm_P cm sm (fr + 4) lo 36 [.ref 3, .int (nI 2), .int (nI (n)), .int (v)] (Gc L xs A B U V S d X) (.inl (some (.int (nI 0))), (Gc L xs A B U V S d X)) := by
  refine eE.of ?_
  refine eR.step 3 (F' := (4, [(0, .ref 3), (1, .int (nI 2)), (2, .int (nI (n))), (3, .int (v)), (4, .int (nI 0))], [.int (nI 2)])) (h' := (Gc L xs A B U V S d X)) (fun _ _ => rfl) ?_
  refine eR.ifc rfl true rfl ?_
  refine eR.step 2 (F' := (23, [(0, .ref 3), (1, .int (nI 2)), (2, .int (nI (n))), (3, .int (v)), (4, .int (nI 0))], [.int (nI 1), .int (nI 2)])) (h' := (Gc L xs A B U V S d X)) (fun _ _ => rfl) ?_
  refine eR.icmp rfl true rfl ?_
  refine eR.step 2 (F' := (42, [(0, .ref 3), (1, .int (nI 2)), (2, .int (nI (n))), (3, .int (v)), (4, .int (nI 0))], [.int (nI 2), .int (nI 2)])) (h' := (Gc L xs A B U V S d X)) (fun _ _ => rfl) ?_
  refine eR.icmp rfl false rfl ?_
  refine eR.step 3 (F' := (48, [(0, .ref 3), (1, .int (nI 2)), (2, .int (nI (n))), (3, .int (v)), (4, .int (nI 0))], [.int (v), .int (nI (n)), .ref 3])) (h' := (Gc L xs A B U V S d X)) (fun _ _ => rfl) ?_
  refine eR.call (k' := 40) (as := [.ref 3, .int (nI (n)), .int (v)]) (rest := []) (v := some (.int (nI 0))) (h1 := (Gc L xs A B U V S d X)) rfl rfl rfl rfl (eg (Nat.le_of_ble_eq_true rfl) (show 22 ≤ lo by omega) (Nat.le_of_ble_eq_true rfl)) (c_spLN0 (show 44 ≤ lo - 22 by omega) hn h) ?_
  refine eR.step 2 (F' := (55, [(0, .ref 3), (1, .int (nI 2)), (2, .int (nI (n))), (3, .int (v)), (4, .int (nI 0))], [.int (nI 0)])) (h' := (Gc L xs A B U V S d X)) (fun _ _ => rfl) ?_
  refine eR.ifc rfl true rfl ?_
  refine eR.step 1 (F' := (65, [(0, .ref 3), (1, .int (nI 2)), (2, .int (nI (n))), (3, .int (v)), (4, .int (nI 0))], [.int (nI 0)])) (h' := (Gc L xs A B U V S d X)) (fun _ _ => rfl) ?_
  exact eR.ret rfl rfl rfl
theorem c_spoil2M {cm sm fr lo L : Nat} {xs : Nat → Int32} {A B : gT} {U V : gU} {S : gS} {d : Nat → Nat} {X : mj_H} (hlo : 66 ≤ lo) {x : Int32} (hx : x < 0) {v : Int32} : eE mm_P cm sm (fr + 4) lo 36 [.ref 3, .int (nI 2), .int (x), .int (v)] (Gc L xs A B U V S d X) (.inl (some (.int (nI 0))), (Gc L xs A B U V S d X)) := by
  refine eE.of ?_
  refine eR.step 3 (F' := (4, [(0, .ref 3), (1, .int (nI 2)), (2, .int (x)), (3, .int (v)), (4, .int (nI 0))], [.int (nI 2)])) (h' := (Gc L xs A B U V S d X)) (fun _ _ => rfl) ?_
  refine eR.ifc rfl true rfl ?_
  refine eR.step 2 (F' := (23, [(0, .ref 3), (1, .int (nI 2)), (2, .int (x)), (3, .int (v)), (4, .int (nI 0))], [.int (nI 1), .int (nI 2)])) (h' := (Gc L xs A B U V S d X)) (fun _ _ => rfl) ?_
  refine eR.icmp rfl true rfl ?_
  refine eR.step 2 (F' := (42, [(0, .ref 3), (1, .int (nI 2)), (2, .int (x)), (3, .int (v)), (4, .int (nI 0))], [.int (nI 2), .int (nI 2)])) (h' := (Gc L xs A B U V S d X)) (fun _ _ => rfl) ?_
  refine eR.icmp rfl false rfl ?_
  refine eR.step 3 (F' := (48, [(0, .ref 3), (1, .int (nI 2)), (2, .int (x)), (3, .int (v)), (4, .int (nI 0))], [.int (v), .int (x), .ref 3])) (h' := (Gc L xs A B U V S d X)) (fun _ _ => rfl) ?_
  refine eR.call (k' := 40) (as := [.ref 3, .int (x), .int (v)]) (rest := []) (v := some (.int (nI 0))) (h1 := (Gc L xs A B U V S d X)) rfl rfl rfl rfl (eg (Nat.le_of_ble_eq_true rfl) (show 22 ≤ lo by omega) (Nat.le_of_ble_eq_true rfl)) (c_spLNM (show 44 ≤ lo - 22 by omega) hx) ?_
  refine eR.step 2 (F' := (55, [(0, .ref 3), (1, .int (nI 2)), (2, .int (x)), (3, .int (v)), (4, .int (nI 0))], [.int (nI 0)])) (h' := (Gc L xs A B U V S d X)) (fun _ _ => rfl) ?_
  refine eR.ifc rfl true rfl ?_
  refine eR.step 1 (F' := (65, [(0, .ref 3), (1, .int (nI 2)), (2, .int (x)), (3, .int (v)), (4, .int (nI 0))], [.int (nI 0)])) (h' := (Gc L xs A B U V S d X)) (fun _ _ => rfl) ?_
  exact eR.ret rfl rfl rfl
theorem c_spoil3 {cm sm fr lo L : Nat} {xs : Nat → Int32} {A B : gT} {U V : gU} {S : gS} {d : Nat → Nat} {X : mj_H} (hlo : 66 ≤ lo) {x y v : Int32} (h0 : ¬ y = 0) (h1 : ¬ y = nI 1) (h2 : ¬ y = nI 2) : eE mm_P cm sm (fr + 4) lo 36 [.ref 3, .int (y), .int (x), .int (v)] (Gc L xs A B U V S d X) (.inl (some (.int (nI 0))), (Gc L xs A B U V S d X)) := by
  refine eE.of ?_
  refine eR.step 3 (F' := (4, [(0, .ref 3), (1, .int (y)), (2, .int (x)), (3, .int (v)), (4, .int (nI 0))], [.int (y)])) (h' := (Gc L xs A B U V S d X)) (fun _ _ => rfl) ?_
  refine eR.ifc rfl true (decide_eq_true h0) ?_
  refine eR.step 2 (F' := (23, [(0, .ref 3), (1, .int (y)), (2, .int (x)), (3, .int (v)), (4, .int (nI 0))], [.int (nI 1), .int (y)])) (h' := (Gc L xs A B U V S d X)) (fun _ _ => rfl) ?_
  refine eR.icmp rfl true (decide_eq_true h1) ?_
  refine eR.step 2 (F' := (42, [(0, .ref 3), (1, .int (y)), (2, .int (x)), (3, .int (v)), (4, .int (nI 0))], [.int (nI 2), .int (y)])) (h' := (Gc L xs A B U V S d X)) (fun _ _ => rfl) ?_
  refine eR.icmp rfl true (decide_eq_true h2) ?_
  refine eR.step 1 (F' := (55, [(0, .ref 3), (1, .int (y)), (2, .int (x)), (3, .int (v)), (4, .int (nI 0))], [.int (nI 0)])) (h' := (Gc L xs A B U V S d X)) (fun _ _ => rfl) ?_
  refine eR.ifc rfl true rfl ?_
  refine eR.step 1 (F' := (65, [(0, .ref 3), (1, .int (y)), (2, .int (x)), (3, .int (v)), (4, .int (nI 0))], [.int (nI 0)])) (h' := (Gc L xs A B U V S d X)) (fun _ _ => rfl) ?_
  exact eR.ret rfl rfl rfl
theorem c_statT0 {cm sm fr lo L : Nat} {xs : Nat → Int32} {A B : gT} {U V : gU} {S : gS} {d : Nat → Nat} {X : mj_H} (hlo : 200 ≤ lo) (hR : gR cm sm L X) {x : Int32} (hd : dk d) (ht : ∀ k, A.1 k < 65536) (hl : A.2 ≤ 40) (hn : ∀ k, U.2.2.2 k < 128) (h0 : d 11 = 0) : eE mm_P cm sm (fr + 9) lo 103 [.ref 3, .int (x)] (Gc L xs A B U V S d X) (.inr (23 + X.length), (Gc L xs (A.1, 0) B (fw d A.1 A.2 U) V S d (X ++ [.inr (0, [])]))) := by
  refine eE.of ?_
  refine eR.step 1 (F' := (1, [(0, .ref 3), (1, .int (x))], [.ref 3])) (h' := (Gc L xs A B U V S d X)) (fun _ _ => rfl) ?_
  have hk := fw_pk (t := A.1) (l := A.2) hd hn
  have hp : (fw d A.1 A.2 U).1 < 2 ^ 20 := Nat.lt_trans hk.1 (by decide)
  have hi : (fw d A.1 A.2 U).2.2.1 < 2 ^ 20 := Nat.lt_trans hk.2.2.1 (by decide)
  refine eR.call (k' := 64) (as := [.ref 3]) (rest := []) (v := none) (h1 := (Gc L xs (A.1, 0) B (fw d A.1 A.2 U) V S d X)) rfl rfl rfl rfl (eg (Nat.le_of_ble_eq_true rfl) (show 20 ≤ lo by omega) (Nat.le_of_ble_eq_true rfl)) (c_takePath_15 (show 112 ≤ lo - 20 by omega) hd ht hl hn) ?_
  refine eR.step 3 (F' := (9, [(0, .ref 3), (1, .int (x))], [.ref 19, .ref 3])) (h' := (Gc L xs (A.1, 0) B (fw d A.1 A.2 U) V S d X)) (fun _ _ => rfl) ?_
  exact eR.callU (k' := 85) (as := [.ref 3, .ref 19]) (rest := []) (cx := 0) (fs := []) (h1 := (Gc L xs (A.1, 0) B (fw d A.1 A.2 U) V S d (X ++ [.inr (0, [])]))) rfl rfl rfl rfl (eg (Nat.le_of_ble_eq_true rfl) (show 21 ≤ lo by omega) (Nat.le_of_ble_eq_true rfl)) (c_thing_19T0 (U := (fw d A.1 A.2 U)) (show 121 ≤ lo - 21 by omega) hR hd h0) (Gc_top ..) rfl rfl rfl
theorem c_statT1 {cm sm fr lo L : Nat} {xs : Nat → Int32} {A B : gT} {U V : gU} {S : gS} {d : Nat → Nat} {X : mj_H} (hlo : 200 ≤ lo) (hR : gR cm sm L X) {x : Int32} (hd : dk d) (ht : ∀ k, A.1 k < 65536) (hl : A.2 ≤ 40) (hn : ∀ k, U.2.2.2 k < 128) (h0 : d 11 ≠ 0) (h1 : (fw d A.1 A.2 U).2.2.1 = 0) : eE mm_P cm sm (fr + 9) lo 103 [.ref 3, .int (x)] (Gc L xs A B U V S d X) (.inr (23 + X.length), (Gc L xs (A.1, 0) B (fw d A.1 A.2 U) V S d (X ++ [.inr (1, [])]))) := by
  refine eE.of ?_
  refine eR.step 1 (F' := (1, [(0, .ref 3), (1, .int (x))], [.ref 3])) (h' := (Gc L xs A B U V S d X)) (fun _ _ => rfl) ?_
  have hk := fw_pk (t := A.1) (l := A.2) hd hn
  have hp : (fw d A.1 A.2 U).1 < 2 ^ 20 := Nat.lt_trans hk.1 (by decide)
  have hi : (fw d A.1 A.2 U).2.2.1 < 2 ^ 20 := Nat.lt_trans hk.2.2.1 (by decide)
  refine eR.call (k' := 64) (as := [.ref 3]) (rest := []) (v := none) (h1 := (Gc L xs (A.1, 0) B (fw d A.1 A.2 U) V S d X)) rfl rfl rfl rfl (eg (Nat.le_of_ble_eq_true rfl) (show 20 ≤ lo by omega) (Nat.le_of_ble_eq_true rfl)) (c_takePath_15 (show 112 ≤ lo - 20 by omega) hd ht hl hn) ?_
  refine eR.step 3 (F' := (9, [(0, .ref 3), (1, .int (x))], [.ref 19, .ref 3])) (h' := (Gc L xs (A.1, 0) B (fw d A.1 A.2 U) V S d X)) (fun _ _ => rfl) ?_
  exact eR.callU (k' := 85) (as := [.ref 3, .ref 19]) (rest := []) (cx := 1) (fs := []) (h1 := (Gc L xs (A.1, 0) B (fw d A.1 A.2 U) V S d (X ++ [.inr (1, [])]))) rfl rfl rfl rfl (eg (Nat.le_of_ble_eq_true rfl) (show 21 ≤ lo by omega) (Nat.le_of_ble_eq_true rfl)) (c_thing_19T1 (U := (fw d A.1 A.2 U)) (show 121 ≤ lo - 21 by omega) hR hd h0 h1) (Gc_top ..) rfl rfl rfl
theorem c_statT2 {cm sm fr lo L : Nat} {xs : Nat → Int32} {A B : gT} {U V : gU} {S : gS} {d : Nat → Nat} {X : mj_H} (hlo : 200 ≤ lo) (hR : gR cm sm L X) {x : Int32} (hx : x.toInt < 0 ∨ 4 < x.toInt) (hd : dk d) (ht : ∀ k, A.1 k < 65536) (hl : A.2 ≤ 40) (hn : ∀ k, U.2.2.2 k < 128) (h0 : d 11 ≠ 0) (h1 : (fw d A.1 A.2 U).2.2.1 ≠ 0)  : eE mm_P cm sm (fr + 9) lo 103 [.ref 3, .int (x)] (Gc L xs A B U V S d X) (.inr (23 + X.length), (Gc L xs (A.1, 0) B (fw d A.1 A.2 U) V S d (X ++ [.inr (3, [])]))) := by
  refine eE.of ?_
  refine eR.step 1 (F' := (1, [(0, .ref 3), (1, .int (x))], [.ref 3])) (h' := (Gc L xs A B U V S d X)) (fun _ _ => rfl) ?_
  have hk := fw_pk (t := A.1) (l := A.2) hd hn
  have hp : (fw d A.1 A.2 U).1 < 2 ^ 20 := Nat.lt_trans hk.1 (by decide)
  have hi : (fw d A.1 A.2 U).2.2.1 < 2 ^ 20 := Nat.lt_trans hk.2.2.1 (by decide)
  refine eR.call (k' := 64) (as := [.ref 3]) (rest := []) (v := none) (h1 := (Gc L xs (A.1, 0) B (fw d A.1 A.2 U) V S d X)) rfl rfl rfl rfl (eg (Nat.le_of_ble_eq_true rfl) (show 20 ≤ lo by omega) (Nat.le_of_ble_eq_true rfl)) (c_takePath_15 (show 112 ≤ lo - 20 by omega) hd ht hl hn) ?_
  refine eR.step 3 (F' := (9, [(0, .ref 3), (1, .int (x))], [.ref 19, .ref 3])) (h' := (Gc L xs (A.1, 0) B (fw d A.1 A.2 U) V S d X)) (fun _ _ => rfl) ?_
  refine eR.call (k' := 85) (as := [.ref 3, .ref 19]) (rest := []) (v := some (.int (nI ((fw d A.1 A.2 U).2.2.1)))) (h1 := (Gc L xs (A.1, 0) B (fw d A.1 A.2 U) V S d X)) rfl rfl rfl rfl (eg (Nat.le_of_ble_eq_true rfl) (show 21 ≤ lo by omega) (Nat.le_of_ble_eq_true rfl)) (c_thing_19 (U := (fw d A.1 A.2 U)) (show 41 ≤ lo - 21 by omega) hd h0 hi h1) ?_
  refine eR.step 2 (F' := (14, [(0, .ref 3), (1, .int (x)), (2, .int (nI ((fw d A.1 A.2 U).2.2.1)))], [.int (x)])) (h' := (Gc L xs (A.1, 0) B (fw d A.1 A.2 U) V S d X)) (fun _ _ => rfl) ?_
  refine eR.swd rfl hx ?_
  exact thrH (cx := 3) rfl rfl rfl rfl rfl rfl rfl (by omega) (by omega) hR
theorem c_stat0 {cm sm fr lo L : Nat} {xs : Nat → Int32} {A B : gT} {U V : gU} {S : gS} {d : Nat → Nat} {X : mj_H} (hlo : 132 ≤ lo) (hd : dk d) (ht : ∀ k, A.1 k < 65536) (hl : A.2 ≤ 40) (hn : ∀ k, U.2.2.2 k < 128) (h0 : d 11 ≠ 0) (h1 : (fw d A.1 A.2 U).2.2.1 ≠ 0)  : eE mm_P cm sm (fr + 8) lo 103 [.ref 3, .int (nI 0)] (Gc L xs A B U V S d X) (.inl (some (.int (nI ((fw d A.1 A.2 U).2.2.1)))), (Gc L xs (A.1, 0) B (fw d A.1 A.2 U) V S d X)) := by
  refine eE.of ?_
  refine eR.step 1 (F' := (1, [(0, .ref 3), (1, .int (nI 0))], [.ref 3])) (h' := (Gc L xs A B U V S d X)) (fun _ _ => rfl) ?_
  have hk := fw_pk (t := A.1) (l := A.2) hd hn
  have hp : (fw d A.1 A.2 U).1 < 2 ^ 20 := Nat.lt_trans hk.1 (by decide)
  have hi : (fw d A.1 A.2 U).2.2.1 < 2 ^ 20 := Nat.lt_trans hk.2.2.1 (by decide)
  refine eR.call (k' := 64) (as := [.ref 3]) (rest := []) (v := none) (h1 := (Gc L xs (A.1, 0) B (fw d A.1 A.2 U) V S d X)) rfl rfl rfl rfl (eg (Nat.le_of_ble_eq_true rfl) (show 20 ≤ lo by omega) (Nat.le_of_ble_eq_true rfl)) (c_takePath_15 (show 112 ≤ lo - 20 by omega) hd ht hl hn) ?_
  refine eR.step 3 (F' := (9, [(0, .ref 3), (1, .int (nI 0))], [.ref 19, .ref 3])) (h' := (Gc L xs (A.1, 0) B (fw d A.1 A.2 U) V S d X)) (fun _ _ => rfl) ?_
  refine eR.call (k' := 85) (as := [.ref 3, .ref 19]) (rest := []) (v := some (.int (nI ((fw d A.1 A.2 U).2.2.1)))) (h1 := (Gc L xs (A.1, 0) B (fw d A.1 A.2 U) V S d X)) rfl rfl rfl rfl (eg (Nat.le_of_ble_eq_true rfl) (show 21 ≤ lo by omega) (Nat.le_of_ble_eq_true rfl)) (c_thing_19 (U := (fw d A.1 A.2 U)) (show 41 ≤ lo - 21 by omega) hd h0 hi h1) ?_
  refine eR.step 2 (F' := (14, [(0, .ref 3), (1, .int (nI 0)), (2, .int (nI ((fw d A.1 A.2 U).2.2.1)))], [.int (nI 0)])) (h' := (Gc L xs (A.1, 0) B (fw d A.1 A.2 U) V S d X)) (fun _ _ => rfl) ?_
  refine eR.swi rfl (by decide) (by decide) rfl ?_
  refine eR.step 1 (F' := (49, [(0, .ref 3), (1, .int (nI 0)), (2, .int (nI ((fw d A.1 A.2 U).2.2.1)))], [.int (nI ((fw d A.1 A.2 U).2.2.1))])) (h' := (Gc L xs (A.1, 0) B (fw d A.1 A.2 U) V S d X)) (fun _ _ => rfl) ?_
  exact eR.ret rfl rfl rfl
theorem c_stat1 {cm sm fr lo L : Nat} {xs : Nat → Int32} {A B : gT} {U V : gU} {S : gS} {d : Nat → Nat} {X : mj_H} (hlo : 132 ≤ lo) (hd : dk d) (ht : ∀ k, A.1 k < 65536) (hl : A.2 ≤ 40) (hn : ∀ k, U.2.2.2 k < 128) (h0 : d 11 ≠ 0) (h1 : (fw d A.1 A.2 U).2.2.1 ≠ 0)  : eE mm_P cm sm (fr + 8) lo 103 [.ref 3, .int (nI 1)] (Gc L xs A B U V S d X) (.inl (some (.int (nI (d (32 + (16 * (fw d A.1 A.2 U).2.2.1)))))), (Gc L xs (A.1, 0) B (fw d A.1 A.2 U) V S d X)) := by
  refine eE.of ?_
  refine eR.step 1 (F' := (1, [(0, .ref 3), (1, .int (nI 1))], [.ref 3])) (h' := (Gc L xs A B U V S d X)) (fun _ _ => rfl) ?_
  have hk := fw_pk (t := A.1) (l := A.2) hd hn
  have hp : (fw d A.1 A.2 U).1 < 2 ^ 20 := Nat.lt_trans hk.1 (by decide)
  have hi : (fw d A.1 A.2 U).2.2.1 < 2 ^ 20 := Nat.lt_trans hk.2.2.1 (by decide)
  refine eR.call (k' := 64) (as := [.ref 3]) (rest := []) (v := none) (h1 := (Gc L xs (A.1, 0) B (fw d A.1 A.2 U) V S d X)) rfl rfl rfl rfl (eg (Nat.le_of_ble_eq_true rfl) (show 20 ≤ lo by omega) (Nat.le_of_ble_eq_true rfl)) (c_takePath_15 (show 112 ≤ lo - 20 by omega) hd ht hl hn) ?_
  refine eR.step 3 (F' := (9, [(0, .ref 3), (1, .int (nI 1))], [.ref 19, .ref 3])) (h' := (Gc L xs (A.1, 0) B (fw d A.1 A.2 U) V S d X)) (fun _ _ => rfl) ?_
  refine eR.call (k' := 85) (as := [.ref 3, .ref 19]) (rest := []) (v := some (.int (nI ((fw d A.1 A.2 U).2.2.1)))) (h1 := (Gc L xs (A.1, 0) B (fw d A.1 A.2 U) V S d X)) rfl rfl rfl rfl (eg (Nat.le_of_ble_eq_true rfl) (show 21 ≤ lo by omega) (Nat.le_of_ble_eq_true rfl)) (c_thing_19 (U := (fw d A.1 A.2 U)) (show 41 ≤ lo - 21 by omega) hd h0 hi h1) ?_
  refine eR.step 2 (F' := (14, [(0, .ref 3), (1, .int (nI 1)), (2, .int (nI ((fw d A.1 A.2 U).2.2.1)))], [.int (nI 1)])) (h' := (Gc L xs (A.1, 0) B (fw d A.1 A.2 U) V S d X)) (fun _ _ => rfl) ?_
  refine eR.swi rfl (by decide) (by decide) rfl ?_
  refine eR.step 3 (F' := (55, [(0, .ref 3), (1, .int (nI 1)), (2, .int (nI ((fw d A.1 A.2 U).2.2.1)))], [.int (nI ((fw d A.1 A.2 U).2.2.1)), .ref 8])) (h' := (Gc L xs (A.1, 0) B (fw d A.1 A.2 U) V S d X)) (fun _ _ => rfl) ?_
  refine eR.call (k' := 41) (as := [.ref 8, .int (nI ((fw d A.1 A.2 U).2.2.1))]) (rest := []) (v := some (.int (nI (d (32 + (16 * (fw d A.1 A.2 U).2.2.1)))))) (h1 := (Gc L xs (A.1, 0) B (fw d A.1 A.2 U) V S d X)) rfl rfl rfl rfl (eg (Nat.le_of_ble_eq_true rfl) (show 21 ≤ lo by omega) (Nat.le_of_ble_eq_true rfl)) (c_kind (show 21 ≤ lo - 21 by omega) hd hi) ?_
  exact eR.ret rfl rfl rfl
theorem c_stat2 {cm sm fr lo L : Nat} {xs : Nat → Int32} {A B : gT} {U V : gU} {S : gS} {d : Nat → Nat} {X : mj_H} (hlo : 132 ≤ lo) (hd : dk d) (ht : ∀ k, A.1 k < 65536) (hl : A.2 ≤ 40) (hn : ∀ k, U.2.2.2 k < 128) (h0 : d 11 ≠ 0) (h1 : (fw d A.1 A.2 U).2.2.1 ≠ 0)  : eE mm_P cm sm (fr + 8) lo 103 [.ref 3, .int (nI 2)] (Gc L xs A B U V S d X) (.inl (some (.int (nI (d (32 + (16 * (fw d A.1 A.2 U).2.2.1) + 1))))), (Gc L xs (A.1, 0) B (fw d A.1 A.2 U) V S d X)) := by
  refine eE.of ?_
  refine eR.step 1 (F' := (1, [(0, .ref 3), (1, .int (nI 2))], [.ref 3])) (h' := (Gc L xs A B U V S d X)) (fun _ _ => rfl) ?_
  have hk := fw_pk (t := A.1) (l := A.2) hd hn
  have hp : (fw d A.1 A.2 U).1 < 2 ^ 20 := Nat.lt_trans hk.1 (by decide)
  have hi : (fw d A.1 A.2 U).2.2.1 < 2 ^ 20 := Nat.lt_trans hk.2.2.1 (by decide)
  refine eR.call (k' := 64) (as := [.ref 3]) (rest := []) (v := none) (h1 := (Gc L xs (A.1, 0) B (fw d A.1 A.2 U) V S d X)) rfl rfl rfl rfl (eg (Nat.le_of_ble_eq_true rfl) (show 20 ≤ lo by omega) (Nat.le_of_ble_eq_true rfl)) (c_takePath_15 (show 112 ≤ lo - 20 by omega) hd ht hl hn) ?_
  refine eR.step 3 (F' := (9, [(0, .ref 3), (1, .int (nI 2))], [.ref 19, .ref 3])) (h' := (Gc L xs (A.1, 0) B (fw d A.1 A.2 U) V S d X)) (fun _ _ => rfl) ?_
  refine eR.call (k' := 85) (as := [.ref 3, .ref 19]) (rest := []) (v := some (.int (nI ((fw d A.1 A.2 U).2.2.1)))) (h1 := (Gc L xs (A.1, 0) B (fw d A.1 A.2 U) V S d X)) rfl rfl rfl rfl (eg (Nat.le_of_ble_eq_true rfl) (show 21 ≤ lo by omega) (Nat.le_of_ble_eq_true rfl)) (c_thing_19 (U := (fw d A.1 A.2 U)) (show 41 ≤ lo - 21 by omega) hd h0 hi h1) ?_
  refine eR.step 2 (F' := (14, [(0, .ref 3), (1, .int (nI 2)), (2, .int (nI ((fw d A.1 A.2 U).2.2.1)))], [.int (nI 2)])) (h' := (Gc L xs (A.1, 0) B (fw d A.1 A.2 U) V S d X)) (fun _ _ => rfl) ?_
  refine eR.swi rfl (by decide) (by decide) rfl ?_
  refine eR.step 3 (F' := (64, [(0, .ref 3), (1, .int (nI 2)), (2, .int (nI ((fw d A.1 A.2 U).2.2.1)))], [.int (nI ((fw d A.1 A.2 U).2.2.1)), .ref 8])) (h' := (Gc L xs (A.1, 0) B (fw d A.1 A.2 U) V S d X)) (fun _ _ => rfl) ?_
  refine eR.call (k' := 27) (as := [.ref 8, .int (nI ((fw d A.1 A.2 U).2.2.1))]) (rest := []) (v := some (.int (nI (d (32 + (16 * (fw d A.1 A.2 U).2.2.1) + 1))))) (h1 := (Gc L xs (A.1, 0) B (fw d A.1 A.2 U) V S d X)) rfl rfl rfl rfl (eg (Nat.le_of_ble_eq_true rfl) (show 21 ≤ lo by omega) (Nat.le_of_ble_eq_true rfl)) (c_links (show 21 ≤ lo - 21 by omega) hd hi) ?_
  exact eR.ret rfl rfl rfl
theorem c_stat3 {cm sm fr lo L : Nat} {xs : Nat → Int32} {A B : gT} {U V : gU} {S : gS} {d : Nat → Nat} {X : mj_H} (hlo : 132 ≤ lo) (hd : dk d) (ht : ∀ k, A.1 k < 65536) (hl : A.2 ≤ 40) (hn : ∀ k, U.2.2.2 k < 128) (h0 : d 11 ≠ 0) (h1 : (fw d A.1 A.2 U).2.2.1 ≠ 0)  : eE mm_P cm sm (fr + 8) lo 103 [.ref 3, .int (nI 3)] (Gc L xs A B U V S d X) (.inl (some (.int (nI (d (32 + (16 * (fw d A.1 A.2 U).2.2.1) + 2) + (256 * (d (32 + (16 * (fw d A.1 A.2 U).2.2.1) + 2 + 1))))))), (Gc L xs (A.1, 0) B (fw d A.1 A.2 U) V S d X)) := by
  refine eE.of ?_
  refine eR.step 1 (F' := (1, [(0, .ref 3), (1, .int (nI 3))], [.ref 3])) (h' := (Gc L xs A B U V S d X)) (fun _ _ => rfl) ?_
  have hk := fw_pk (t := A.1) (l := A.2) hd hn
  have hp : (fw d A.1 A.2 U).1 < 2 ^ 20 := Nat.lt_trans hk.1 (by decide)
  have hi : (fw d A.1 A.2 U).2.2.1 < 2 ^ 20 := Nat.lt_trans hk.2.2.1 (by decide)
  refine eR.call (k' := 64) (as := [.ref 3]) (rest := []) (v := none) (h1 := (Gc L xs (A.1, 0) B (fw d A.1 A.2 U) V S d X)) rfl rfl rfl rfl (eg (Nat.le_of_ble_eq_true rfl) (show 20 ≤ lo by omega) (Nat.le_of_ble_eq_true rfl)) (c_takePath_15 (show 112 ≤ lo - 20 by omega) hd ht hl hn) ?_
  refine eR.step 3 (F' := (9, [(0, .ref 3), (1, .int (nI 3))], [.ref 19, .ref 3])) (h' := (Gc L xs (A.1, 0) B (fw d A.1 A.2 U) V S d X)) (fun _ _ => rfl) ?_
  refine eR.call (k' := 85) (as := [.ref 3, .ref 19]) (rest := []) (v := some (.int (nI ((fw d A.1 A.2 U).2.2.1)))) (h1 := (Gc L xs (A.1, 0) B (fw d A.1 A.2 U) V S d X)) rfl rfl rfl rfl (eg (Nat.le_of_ble_eq_true rfl) (show 21 ≤ lo by omega) (Nat.le_of_ble_eq_true rfl)) (c_thing_19 (U := (fw d A.1 A.2 U)) (show 41 ≤ lo - 21 by omega) hd h0 hi h1) ?_
  refine eR.step 2 (F' := (14, [(0, .ref 3), (1, .int (nI 3)), (2, .int (nI ((fw d A.1 A.2 U).2.2.1)))], [.int (nI 3)])) (h' := (Gc L xs (A.1, 0) B (fw d A.1 A.2 U) V S d X)) (fun _ _ => rfl) ?_
  refine eR.swi rfl (by decide) (by decide) rfl ?_
  refine eR.step 3 (F' := (73, [(0, .ref 3), (1, .int (nI 3)), (2, .int (nI ((fw d A.1 A.2 U).2.2.1)))], [.int (nI ((fw d A.1 A.2 U).2.2.1)), .ref 8])) (h' := (Gc L xs (A.1, 0) B (fw d A.1 A.2 U) V S d X)) (fun _ _ => rfl) ?_
  refine eR.call (k' := 51) (as := [.ref 8, .int (nI ((fw d A.1 A.2 U).2.2.1))]) (rest := []) (v := some (.int (nI (d (32 + (16 * (fw d A.1 A.2 U).2.2.1) + 2) + (256 * (d (32 + (16 * (fw d A.1 A.2 U).2.2.1) + 2 + 1))))))) (h1 := (Gc L xs (A.1, 0) B (fw d A.1 A.2 U) V S d X)) rfl rfl rfl rfl (eg (Nat.le_of_ble_eq_true rfl) (show 22 ≤ lo by omega) (Nat.le_of_ble_eq_true rfl)) (c_sizeI (show 21 ≤ lo - 22 by omega) hd hi) ?_
  exact eR.ret rfl rfl rfl
theorem c_stat4 {cm sm fr lo L : Nat} {xs : Nat → Int32} {A B : gT} {U V : gU} {S : gS} {d : Nat → Nat} {X : mj_H} (hlo : 132 ≤ lo) (hd : dk d) (ht : ∀ k, A.1 k < 65536) (hl : A.2 ≤ 40) (hn : ∀ k, U.2.2.2 k < 128) (h0 : d 11 ≠ 0) (h1 : (fw d A.1 A.2 U).2.2.1 ≠ 0)  : eE mm_P cm sm (fr + 8) lo 103 [.ref 3, .int (nI 4)] (Gc L xs A B U V S d X) (.inl (some (.int (nI ((if d (32 + (16 * (fw d A.1 A.2 U).2.2.1) + 10) = 0 then 0 else 1) + pg d ((fw d A.1 A.2 U).2.2.1) 0 38)))), (Gc L xs (A.1, 0) B (fw d A.1 A.2 U) V S d X)) := by
  refine eE.of ?_
  refine eR.step 1 (F' := (1, [(0, .ref 3), (1, .int (nI 4))], [.ref 3])) (h' := (Gc L xs A B U V S d X)) (fun _ _ => rfl) ?_
  have hk := fw_pk (t := A.1) (l := A.2) hd hn
  have hp : (fw d A.1 A.2 U).1 < 2 ^ 20 := Nat.lt_trans hk.1 (by decide)
  have hi : (fw d A.1 A.2 U).2.2.1 < 2 ^ 20 := Nat.lt_trans hk.2.2.1 (by decide)
  refine eR.call (k' := 64) (as := [.ref 3]) (rest := []) (v := none) (h1 := (Gc L xs (A.1, 0) B (fw d A.1 A.2 U) V S d X)) rfl rfl rfl rfl (eg (Nat.le_of_ble_eq_true rfl) (show 20 ≤ lo by omega) (Nat.le_of_ble_eq_true rfl)) (c_takePath_15 (show 112 ≤ lo - 20 by omega) hd ht hl hn) ?_
  refine eR.step 3 (F' := (9, [(0, .ref 3), (1, .int (nI 4))], [.ref 19, .ref 3])) (h' := (Gc L xs (A.1, 0) B (fw d A.1 A.2 U) V S d X)) (fun _ _ => rfl) ?_
  refine eR.call (k' := 85) (as := [.ref 3, .ref 19]) (rest := []) (v := some (.int (nI ((fw d A.1 A.2 U).2.2.1)))) (h1 := (Gc L xs (A.1, 0) B (fw d A.1 A.2 U) V S d X)) rfl rfl rfl rfl (eg (Nat.le_of_ble_eq_true rfl) (show 21 ≤ lo by omega) (Nat.le_of_ble_eq_true rfl)) (c_thing_19 (U := (fw d A.1 A.2 U)) (show 41 ≤ lo - 21 by omega) hd h0 hi h1) ?_
  refine eR.step 2 (F' := (14, [(0, .ref 3), (1, .int (nI 4)), (2, .int (nI ((fw d A.1 A.2 U).2.2.1)))], [.int (nI 4)])) (h' := (Gc L xs (A.1, 0) B (fw d A.1 A.2 U) V S d X)) (fun _ _ => rfl) ?_
  refine eR.swi rfl (by decide) (by decide) rfl ?_
  refine eR.step 3 (F' := (82, [(0, .ref 3), (1, .int (nI 4)), (2, .int (nI ((fw d A.1 A.2 U).2.2.1)))], [.int (nI ((fw d A.1 A.2 U).2.2.1)), .ref 8])) (h' := (Gc L xs (A.1, 0) B (fw d A.1 A.2 U) V S d X)) (fun _ _ => rfl) ?_
  refine eR.call (k' := 104) (as := [.ref 8, .int (nI ((fw d A.1 A.2 U).2.2.1))]) (rest := []) (v := some (.int (nI ((if d (32 + (16 * (fw d A.1 A.2 U).2.2.1) + 10) = 0 then 0 else 1) + pg d ((fw d A.1 A.2 U).2.2.1) 0 38)))) (h1 := (Gc L xs (A.1, 0) B (fw d A.1 A.2 U) V S d X)) rfl rfl rfl rfl (eg (Nat.le_of_ble_eq_true rfl) (show 23 ≤ lo by omega) (Nat.le_of_ble_eq_true rfl)) (c_blocks (show 66 ≤ lo - 23 by omega) hd hi) ?_
  exact eR.ret rfl rfl rfl
theorem c_truncT0 {cm sm fr lo L : Nat} {xs : Nat → Int32} {A B : gT} {U V : gU} {S : gS} {d : Nat → Nat} {X : mj_H} (hlo : 200 ≤ lo) (hR : gR cm sm L X) {x : Int32} (hd : dk d) (ht : ∀ k, A.1 k < 65536) (hl : A.2 ≤ 40) (hn : ∀ k, U.2.2.2 k < 128) (h0 : d 11 = 0) : eE mm_P cm sm (fr + 9) lo 102 [.ref 3, .int (x)] (Gc L xs A B U V S d X) (.inr (23 + X.length), (Gc L xs (A.1, 0) B (fw d A.1 A.2 U) V S d (X ++ [.inr (0, [])]))) := by
  refine eE.of ?_
  refine eR.step 1 (F' := (1, [(0, .ref 3), (1, .int (x))], [.ref 3])) (h' := (Gc L xs A B U V S d X)) (fun _ _ => rfl) ?_
  have hk := fw_pk (t := A.1) (l := A.2) hd hn
  have hp : (fw d A.1 A.2 U).1 < 2 ^ 20 := Nat.lt_trans hk.1 (by decide)
  have hi : (fw d A.1 A.2 U).2.2.1 < 2 ^ 20 := Nat.lt_trans hk.2.2.1 (by decide)
  refine eR.call (k' := 64) (as := [.ref 3]) (rest := []) (v := none) (h1 := (Gc L xs (A.1, 0) B (fw d A.1 A.2 U) V S d X)) rfl rfl rfl rfl (eg (Nat.le_of_ble_eq_true rfl) (show 20 ≤ lo by omega) (Nat.le_of_ble_eq_true rfl)) (c_takePath_15 (show 112 ≤ lo - 20 by omega) hd ht hl hn) ?_
  refine eR.step 3 (F' := (9, [(0, .ref 3), (1, .int (x))], [.ref 19, .ref 3])) (h' := (Gc L xs (A.1, 0) B (fw d A.1 A.2 U) V S d X)) (fun _ _ => rfl) ?_
  exact eR.callU (k' := 84) (as := [.ref 3, .ref 19]) (rest := []) (cx := 0) (fs := []) (h1 := (Gc L xs (A.1, 0) B (fw d A.1 A.2 U) V S d (X ++ [.inr (0, [])]))) rfl rfl rfl rfl (eg (Nat.le_of_ble_eq_true rfl) (show 22 ≤ lo by omega) (Nat.le_of_ble_eq_true rfl)) (c_file_19T0 (U := (fw d A.1 A.2 U)) (show 150 ≤ lo - 22 by omega) hR hd h0) (Gc_top ..) rfl rfl rfl
theorem c_truncT1 {cm sm fr lo L : Nat} {xs : Nat → Int32} {A B : gT} {U V : gU} {S : gS} {d : Nat → Nat} {X : mj_H} (hlo : 200 ≤ lo) (hR : gR cm sm L X) {x : Int32} (hd : dk d) (ht : ∀ k, A.1 k < 65536) (hl : A.2 ≤ 40) (hn : ∀ k, U.2.2.2 k < 128) (h0 : d 11 ≠ 0) (h1 : (fw d A.1 A.2 U).2.2.1 = 0) : eE mm_P cm sm (fr + 9) lo 102 [.ref 3, .int (x)] (Gc L xs A B U V S d X) (.inr (23 + X.length), (Gc L xs (A.1, 0) B (fw d A.1 A.2 U) V S d (X ++ [.inr (1, [])]))) := by
  refine eE.of ?_
  refine eR.step 1 (F' := (1, [(0, .ref 3), (1, .int (x))], [.ref 3])) (h' := (Gc L xs A B U V S d X)) (fun _ _ => rfl) ?_
  have hk := fw_pk (t := A.1) (l := A.2) hd hn
  have hp : (fw d A.1 A.2 U).1 < 2 ^ 20 := Nat.lt_trans hk.1 (by decide)
  have hi : (fw d A.1 A.2 U).2.2.1 < 2 ^ 20 := Nat.lt_trans hk.2.2.1 (by decide)
  refine eR.call (k' := 64) (as := [.ref 3]) (rest := []) (v := none) (h1 := (Gc L xs (A.1, 0) B (fw d A.1 A.2 U) V S d X)) rfl rfl rfl rfl (eg (Nat.le_of_ble_eq_true rfl) (show 20 ≤ lo by omega) (Nat.le_of_ble_eq_true rfl)) (c_takePath_15 (show 112 ≤ lo - 20 by omega) hd ht hl hn) ?_
  refine eR.step 3 (F' := (9, [(0, .ref 3), (1, .int (x))], [.ref 19, .ref 3])) (h' := (Gc L xs (A.1, 0) B (fw d A.1 A.2 U) V S d X)) (fun _ _ => rfl) ?_
  exact eR.callU (k' := 84) (as := [.ref 3, .ref 19]) (rest := []) (cx := 1) (fs := []) (h1 := (Gc L xs (A.1, 0) B (fw d A.1 A.2 U) V S d (X ++ [.inr (1, [])]))) rfl rfl rfl rfl (eg (Nat.le_of_ble_eq_true rfl) (show 22 ≤ lo by omega) (Nat.le_of_ble_eq_true rfl)) (c_file_19T1 (U := (fw d A.1 A.2 U)) (show 150 ≤ lo - 22 by omega) hR hd h0 h1) (Gc_top ..) rfl rfl rfl
theorem c_truncT2 {cm sm fr lo L : Nat} {xs : Nat → Int32} {A B : gT} {U V : gU} {S : gS} {d : Nat → Nat} {X : mj_H} (hlo : 200 ≤ lo) (hR : gR cm sm L X) {x : Int32} (hd : dk d) (ht : ∀ k, A.1 k < 65536) (hl : A.2 ≤ 40) (hn : ∀ k, U.2.2.2 k < 128) (h0 : d 11 ≠ 0) (h1 : (fw d A.1 A.2 U).2.2.1 ≠ 0) (h2 : d (32 + (16 * (fw d A.1 A.2 U).2.2.1)) = 2) : eE mm_P cm sm (fr + 9) lo 102 [.ref 3, .int (x)] (Gc L xs A B U V S d X) (.inr (23 + X.length), (Gc L xs (A.1, 0) B (fw d A.1 A.2 U) V S d (X ++ [.inr (2, [])]))) := by
  refine eE.of ?_
  refine eR.step 1 (F' := (1, [(0, .ref 3), (1, .int (x))], [.ref 3])) (h' := (Gc L xs A B U V S d X)) (fun _ _ => rfl) ?_
  have hk := fw_pk (t := A.1) (l := A.2) hd hn
  have hp : (fw d A.1 A.2 U).1 < 2 ^ 20 := Nat.lt_trans hk.1 (by decide)
  have hi : (fw d A.1 A.2 U).2.2.1 < 2 ^ 20 := Nat.lt_trans hk.2.2.1 (by decide)
  refine eR.call (k' := 64) (as := [.ref 3]) (rest := []) (v := none) (h1 := (Gc L xs (A.1, 0) B (fw d A.1 A.2 U) V S d X)) rfl rfl rfl rfl (eg (Nat.le_of_ble_eq_true rfl) (show 20 ≤ lo by omega) (Nat.le_of_ble_eq_true rfl)) (c_takePath_15 (show 112 ≤ lo - 20 by omega) hd ht hl hn) ?_
  refine eR.step 3 (F' := (9, [(0, .ref 3), (1, .int (x))], [.ref 19, .ref 3])) (h' := (Gc L xs (A.1, 0) B (fw d A.1 A.2 U) V S d X)) (fun _ _ => rfl) ?_
  exact eR.callU (k' := 84) (as := [.ref 3, .ref 19]) (rest := []) (cx := 2) (fs := []) (h1 := (Gc L xs (A.1, 0) B (fw d A.1 A.2 U) V S d (X ++ [.inr (2, [])]))) rfl rfl rfl rfl (eg (Nat.le_of_ble_eq_true rfl) (show 22 ≤ lo by omega) (Nat.le_of_ble_eq_true rfl)) (c_file_19T2 (U := (fw d A.1 A.2 U)) (show 150 ≤ lo - 22 by omega) hR hd h0 hi h1 h2) (Gc_top ..) rfl rfl rfl
theorem c_truncT3 {cm sm fr lo L : Nat} {xs : Nat → Int32} {A B : gT} {U V : gU} {S : gS} {d : Nat → Nat} {X : mj_H} (hlo : 200 ≤ lo) (hR : gR cm sm L X) {x : Int32} (hx : x < 0) (hd : dk d) (ht : ∀ k, A.1 k < 65536) (hl : A.2 ≤ 40) (hn : ∀ k, U.2.2.2 k < 128) (h0 : d 11 ≠ 0) (h1 : (fw d A.1 A.2 U).2.2.1 ≠ 0) (h2 : d (32 + (16 * (fw d A.1 A.2 U).2.2.1)) ≠ 2)  : eE mm_P cm sm (fr + 9) lo 102 [.ref 3, .int (x)] (Gc L xs A B U V S d X) (.inr (23 + X.length), (Gc L xs (A.1, 0) B (fw d A.1 A.2 U) V S d (X ++ [.inr (3, [])]))) := by
  refine eE.of ?_
  refine eR.step 1 (F' := (1, [(0, .ref 3), (1, .int (x))], [.ref 3])) (h' := (Gc L xs A B U V S d X)) (fun _ _ => rfl) ?_
  have hk := fw_pk (t := A.1) (l := A.2) hd hn
  have hp : (fw d A.1 A.2 U).1 < 2 ^ 20 := Nat.lt_trans hk.1 (by decide)
  have hi : (fw d A.1 A.2 U).2.2.1 < 2 ^ 20 := Nat.lt_trans hk.2.2.1 (by decide)
  refine eR.call (k' := 64) (as := [.ref 3]) (rest := []) (v := none) (h1 := (Gc L xs (A.1, 0) B (fw d A.1 A.2 U) V S d X)) rfl rfl rfl rfl (eg (Nat.le_of_ble_eq_true rfl) (show 20 ≤ lo by omega) (Nat.le_of_ble_eq_true rfl)) (c_takePath_15 (show 112 ≤ lo - 20 by omega) hd ht hl hn) ?_
  refine eR.step 3 (F' := (9, [(0, .ref 3), (1, .int (x))], [.ref 19, .ref 3])) (h' := (Gc L xs (A.1, 0) B (fw d A.1 A.2 U) V S d X)) (fun _ _ => rfl) ?_
  refine eR.call (k' := 84) (as := [.ref 3, .ref 19]) (rest := []) (v := some (.int (nI ((fw d A.1 A.2 U).2.2.1)))) (h1 := (Gc L xs (A.1, 0) B (fw d A.1 A.2 U) V S d X)) rfl rfl rfl rfl (eg (Nat.le_of_ble_eq_true rfl) (show 22 ≤ lo by omega) (Nat.le_of_ble_eq_true rfl)) (c_file_19 (U := (fw d A.1 A.2 U)) (show 62 ≤ lo - 22 by omega) hd h0 hi h1 h2) ?_
  refine eR.step 2 (F' := (14, [(0, .ref 3), (1, .int (x)), (2, .int (nI ((fw d A.1 A.2 U).2.2.1)))], [.int (x)])) (h' := (Gc L xs (A.1, 0) B (fw d A.1 A.2 U) V S d X)) (fun _ _ => rfl) ?_
  refine eR.ifc rfl true (decide_eq_true hx) ?_
  exact thrH (cx := 3) rfl rfl rfl rfl rfl rfl rfl (by omega) (by omega) hR
theorem c_truncT4 {cm sm fr lo L : Nat} {xs : Nat → Int32} {A B : gT} {U V : gU} {S : gS} {d : Nat → Nat} {X : mj_H} (hlo : 200 ≤ lo) (hR : gR cm sm L X) {s : Nat} (hs : s < 2 ^ 31) (h3 : 1216 < s) (hd : dk d) (ht : ∀ k, A.1 k < 65536) (hl : A.2 ≤ 40) (hn : ∀ k, U.2.2.2 k < 128) (h0 : d 11 ≠ 0) (h1 : (fw d A.1 A.2 U).2.2.1 ≠ 0) (h2 : d (32 + (16 * (fw d A.1 A.2 U).2.2.1)) ≠ 2)  : eE mm_P cm sm (fr + 9) lo 102 [.ref 3, .int (nI (s))] (Gc L xs A B U V S d X) (.inr (23 + X.length), (Gc L xs (A.1, 0) B (fw d A.1 A.2 U) V S d (X ++ [.inr (3, [])]))) := by
  refine eE.of ?_
  refine eR.step 1 (F' := (1, [(0, .ref 3), (1, .int (nI (s)))], [.ref 3])) (h' := (Gc L xs A B U V S d X)) (fun _ _ => rfl) ?_
  have hk := fw_pk (t := A.1) (l := A.2) hd hn
  have hp : (fw d A.1 A.2 U).1 < 2 ^ 20 := Nat.lt_trans hk.1 (by decide)
  have hi : (fw d A.1 A.2 U).2.2.1 < 2 ^ 20 := Nat.lt_trans hk.2.2.1 (by decide)
  refine eR.call (k' := 64) (as := [.ref 3]) (rest := []) (v := none) (h1 := (Gc L xs (A.1, 0) B (fw d A.1 A.2 U) V S d X)) rfl rfl rfl rfl (eg (Nat.le_of_ble_eq_true rfl) (show 20 ≤ lo by omega) (Nat.le_of_ble_eq_true rfl)) (c_takePath_15 (show 112 ≤ lo - 20 by omega) hd ht hl hn) ?_
  refine eR.step 3 (F' := (9, [(0, .ref 3), (1, .int (nI (s)))], [.ref 19, .ref 3])) (h' := (Gc L xs (A.1, 0) B (fw d A.1 A.2 U) V S d X)) (fun _ _ => rfl) ?_
  refine eR.call (k' := 84) (as := [.ref 3, .ref 19]) (rest := []) (v := some (.int (nI ((fw d A.1 A.2 U).2.2.1)))) (h1 := (Gc L xs (A.1, 0) B (fw d A.1 A.2 U) V S d X)) rfl rfl rfl rfl (eg (Nat.le_of_ble_eq_true rfl) (show 22 ≤ lo by omega) (Nat.le_of_ble_eq_true rfl)) (c_file_19 (U := (fw d A.1 A.2 U)) (show 62 ≤ lo - 22 by omega) hd h0 hi h1 h2) ?_
  refine eR.step 2 (F' := (14, [(0, .ref 3), (1, .int (nI (s))), (2, .int (nI ((fw d A.1 A.2 U).2.2.1)))], [.int (nI (s))])) (h' := (Gc L xs (A.1, 0) B (fw d A.1 A.2 U) V S d X)) (fun _ _ => rfl) ?_
  refine eR.ifc rfl false ((nc_lt (b := 0) (by omega) (by decide)).trans (decide_eq_false (by omega))) ?_
  refine eR.step 2 (F' := (21, [(0, .ref 3), (1, .int (nI (s))), (2, .int (nI ((fw d A.1 A.2 U).2.2.1)))], [.int (nI 1216), .int (nI (s))])) (h' := (Gc L xs (A.1, 0) B (fw d A.1 A.2 U) V S d X)) (fun _ _ => rfl) ?_
  refine eR.icmp rfl false ((nc_le (by omega) (by omega)).trans (decide_eq_false (by omega))) ?_
  exact thrH (cx := 3) rfl rfl rfl rfl rfl rfl rfl (by omega) (by omega) hR
theorem l_trunc {cm sm fr lo L : Nat} {xs : Nat → Int32} {A B : gT} {U V : gU} {S : gS} {X : mj_H} (hlo : 132 ≤ lo) {i s z u : Nat} (hi : i < 2 ^ 20) (hu : u < 2 ^ 14) {r : mj_O × mj_H} : ∀ (q g : Nat) (d : Nat → Nat), dk d → g + q = u * 32 → eR mm_P cm sm (fr + 7) lo 102 (94, [(0, .ref 3), (1, .int (nI (s))), (2, .int (nI (i))), (3, .int (nI (z))), (4, .int (nI (u))), (5, .int (nI (u * 32)))], []) (Gc L xs (A.1, 0) B U V S (pz i d g q) X) r → eR mm_P cm sm (fr + 7) lo 102 (67, [(0, .ref 3), (1, .int (nI (s))), (2, .int (nI (i))), (3, .int (nI (z))), (4, .int (nI (u))), (5, .int (nI (g)))], []) (Gc L xs (A.1, 0) B U V S d X) r
  | 0, g, d, hd, hg, w => by
    refine eR.step 3 (F' := (73, [(0, .ref 3), (1, .int (nI (s))), (2, .int (nI (i))), (3, .int (nI (z))), (4, .int (nI (u))), (5, .int (nI (g)))], [.int (nI 32), .int (nI (u)), .int (nI (g))])) (h' := (Gc L xs (A.1, 0) B U V S d X)) (fun _ _ => rfl) ?_
    refine eR.nmul rfl ?_
    refine eR.icmp rfl true ((nc_ge (by omega) (by omega)).trans (decide_eq_true (by omega))) ?_
    have e : g = u * 32 := by omega
    subst e
    exact w
  | q + 1, g, d, hd, hg, w => by
    refine eR.step 3 (F' := (73, [(0, .ref 3), (1, .int (nI (s))), (2, .int (nI (i))), (3, .int (nI (z))), (4, .int (nI (u))), (5, .int (nI (g)))], [.int (nI 32), .int (nI (u)), .int (nI (g))])) (h' := (Gc L xs (A.1, 0) B U V S d X)) (fun _ _ => rfl) ?_
    refine eR.nmul rfl ?_
    refine eR.icmp rfl false ((nc_ge (by omega) (by omega)).trans (decide_eq_false (by omega))) ?_
    refine eR.step 5 (F' := (85, [(0, .ref 3), (1, .int (nI (s))), (2, .int (nI (i))), (3, .int (nI (z))), (4, .int (nI (u))), (5, .int (nI (g)))], [.int (nI 0), .int (nI (g)), .int (nI (i)), .ref 8])) (h' := (Gc L xs (A.1, 0) B U V S d X)) (fun _ _ => rfl) ?_
    refine eR.call (k' := 99) (as := [.ref 8, .int (nI (i)), .int (nI (g)), .int (nI 0)]) (rest := []) (v := none) (h1 := (Gc L xs (A.1, 0) B U V S (py d i g 0) X)) rfl rfl rfl rfl (eg (Nat.le_of_ble_eq_true rfl) (show 24 ≤ lo by omega) (Nat.le_of_ble_eq_true rfl)) (c_putByte (show 66 ≤ lo - 24 by omega) hd hi (by omega)) ?_
    refine eR.step 1 (F' := (91, [(0, .ref 3), (1, .int (nI (s))), (2, .int (nI (i))), (3, .int (nI (z))), (4, .int (nI (u))), (5, .int (nI (g) + 1))], [])) (h' := (Gc L xs (A.1, 0) B U V S (py d i g 0) X)) (fun _ _ => rfl) ?_
    rw [show nI (g) + 1 = nI (g + 1) from nI_add (g) 1]
    refine eR.step 1 (F' := (67, [(0, .ref 3), (1, .int (nI (s))), (2, .int (nI (i))), (3, .int (nI (z))), (4, .int (nI (u))), (5, .int (nI (g + 1)))], [])) (h' := (Gc L xs (A.1, 0) B U V S (py d i g 0) X)) (fun _ _ => rfl) ?_
    exact l_trunc hlo hi hu q (g + 1) _ (py_dk hd _ _ _) (by omega) w
theorem c_trunc {cm sm fr lo L : Nat} {xs : Nat → Int32} {A B : gT} {U V : gU} {S : gS} {d : Nat → Nat} {X : mj_H} (hlo : 132 ≤ lo) {s : Nat} (h3 : s ≤ 1216) (hd : dk d) (ht : ∀ k, A.1 k < 65536) (hl : A.2 ≤ 40) (hn : ∀ k, U.2.2.2 k < 128) (h0 : d 11 ≠ 0) (h1 : (fw d A.1 A.2 U).2.2.1 ≠ 0) (h2 : d (32 + (16 * (fw d A.1 A.2 U).2.2.1)) ≠ 2)  : eE mm_P cm sm (fr + 8) lo 102 [.ref 3, .int (nI (s))] (Gc L xs A B U V S d X) (.inl (some (.int (nI (d (32 + (16 * (fw d A.1 A.2 U).2.2.1) + 2) + (256 * (d (32 + (16 * (fw d A.1 A.2 U).2.2.1) + 2 + 1))))))), (Gc L xs (A.1, 0) B (fw d A.1 A.2 U) V S (ss (pz (fw d A.1 A.2 U).2.2.1 (dr d (fw d A.1 A.2 U).2.2.1 ((s + 32 - 1) / 32)) s ((s + 32 - 1) / 32 * 32 - s)) (fw d A.1 A.2 U).2.2.1 s) X)) := by
  refine eE.of ?_
  refine eR.step 1 (F' := (1, [(0, .ref 3), (1, .int (nI (s)))], [.ref 3])) (h' := (Gc L xs A B U V S d X)) (fun _ _ => rfl) ?_
  have hk := fw_pk (t := A.1) (l := A.2) hd hn
  have hp : (fw d A.1 A.2 U).1 < 2 ^ 20 := Nat.lt_trans hk.1 (by decide)
  have hi : (fw d A.1 A.2 U).2.2.1 < 2 ^ 20 := Nat.lt_trans hk.2.2.1 (by decide)
  refine eR.call (k' := 64) (as := [.ref 3]) (rest := []) (v := none) (h1 := (Gc L xs (A.1, 0) B (fw d A.1 A.2 U) V S d X)) rfl rfl rfl rfl (eg (Nat.le_of_ble_eq_true rfl) (show 20 ≤ lo by omega) (Nat.le_of_ble_eq_true rfl)) (c_takePath_15 (show 112 ≤ lo - 20 by omega) hd ht hl hn) ?_
  refine eR.step 3 (F' := (9, [(0, .ref 3), (1, .int (nI (s)))], [.ref 19, .ref 3])) (h' := (Gc L xs (A.1, 0) B (fw d A.1 A.2 U) V S d X)) (fun _ _ => rfl) ?_
  refine eR.call (k' := 84) (as := [.ref 3, .ref 19]) (rest := []) (v := some (.int (nI ((fw d A.1 A.2 U).2.2.1)))) (h1 := (Gc L xs (A.1, 0) B (fw d A.1 A.2 U) V S d X)) rfl rfl rfl rfl (eg (Nat.le_of_ble_eq_true rfl) (show 22 ≤ lo by omega) (Nat.le_of_ble_eq_true rfl)) (c_file_19 (U := (fw d A.1 A.2 U)) (show 62 ≤ lo - 22 by omega) hd h0 hi h1 h2) ?_
  refine eR.step 2 (F' := (14, [(0, .ref 3), (1, .int (nI (s))), (2, .int (nI ((fw d A.1 A.2 U).2.2.1)))], [.int (nI (s))])) (h' := (Gc L xs (A.1, 0) B (fw d A.1 A.2 U) V S d X)) (fun _ _ => rfl) ?_
  refine eR.ifc rfl false ((nc_lt (b := 0) (by omega) (by decide)).trans (decide_eq_false (by omega))) ?_
  refine eR.step 2 (F' := (21, [(0, .ref 3), (1, .int (nI (s))), (2, .int (nI ((fw d A.1 A.2 U).2.2.1)))], [.int (nI 1216), .int (nI (s))])) (h' := (Gc L xs (A.1, 0) B (fw d A.1 A.2 U) V S d X)) (fun _ _ => rfl) ?_
  refine eR.icmp rfl true ((nc_le (by omega) (by omega)).trans (decide_eq_true (by omega))) ?_
  refine eR.step 3 (F' := (39, [(0, .ref 3), (1, .int (nI (s))), (2, .int (nI ((fw d A.1 A.2 U).2.2.1)))], [.int (nI ((fw d A.1 A.2 U).2.2.1)), .ref 8])) (h' := (Gc L xs (A.1, 0) B (fw d A.1 A.2 U) V S d X)) (fun _ _ => rfl) ?_
  have h7 := hd.1 (32 + (16 * (fw d A.1 A.2 U).2.2.1) + 2)
  have h8 := hd.1 (32 + (16 * (fw d A.1 A.2 U).2.2.1) + 2 + 1)
  refine eR.call (k' := 51) (as := [.ref 8, .int (nI ((fw d A.1 A.2 U).2.2.1))]) (rest := []) (v := some (.int (nI (d (32 + (16 * (fw d A.1 A.2 U).2.2.1) + 2) + (256 * (d (32 + (16 * (fw d A.1 A.2 U).2.2.1) + 2 + 1))))))) (h1 := (Gc L xs (A.1, 0) B (fw d A.1 A.2 U) V S d X)) rfl rfl rfl rfl (eg (Nat.le_of_ble_eq_true rfl) (show 22 ≤ lo by omega) (Nat.le_of_ble_eq_true rfl)) (c_sizeI (show 21 ≤ lo - 22 by omega) hd hi) ?_
  refine eR.step 3 (F' := (46, [(0, .ref 3), (1, .int (nI (s))), (2, .int (nI ((fw d A.1 A.2 U).2.2.1))), (3, .int (nI (d (32 + (16 * (fw d A.1 A.2 U).2.2.1) + 2) + (256 * (d (32 + (16 * (fw d A.1 A.2 U).2.2.1) + 2 + 1))))))], [.int (nI 32), .int (nI (s))])) (h' := (Gc L xs (A.1, 0) B (fw d A.1 A.2 U) V S d X)) (fun _ _ => rfl) ?_
  refine eR.nadd rfl ?_
  refine eR.step 1 (F' := (48, [(0, .ref 3), (1, .int (nI (s))), (2, .int (nI ((fw d A.1 A.2 U).2.2.1))), (3, .int (nI (d (32 + (16 * (fw d A.1 A.2 U).2.2.1) + 2) + (256 * (d (32 + (16 * (fw d A.1 A.2 U).2.2.1) + 2 + 1))))))], [.int (nI 1), .int (nI (s + 32))])) (h' := (Gc L xs (A.1, 0) B (fw d A.1 A.2 U) V S d X)) (fun _ _ => rfl) ?_
  refine eR.nsub rfl (by omega) ?_
  refine eR.step 1 (F' := (51, [(0, .ref 3), (1, .int (nI (s))), (2, .int (nI ((fw d A.1 A.2 U).2.2.1))), (3, .int (nI (d (32 + (16 * (fw d A.1 A.2 U).2.2.1) + 2) + (256 * (d (32 + (16 * (fw d A.1 A.2 U).2.2.1) + 2 + 1))))))], [.int (nI 32), .int (nI ((s + 32) - 1))])) (h' := (Gc L xs (A.1, 0) B (fw d A.1 A.2 U) V S d X)) (fun _ _ => rfl) ?_
  refine eR.ndiv rfl (by omega) (by decide) (by decide) ?_
  refine eR.step 5 (F' := (61, [(0, .ref 3), (1, .int (nI (s))), (2, .int (nI ((fw d A.1 A.2 U).2.2.1))), (3, .int (nI (d (32 + (16 * (fw d A.1 A.2 U).2.2.1) + 2) + (256 * (d (32 + (16 * (fw d A.1 A.2 U).2.2.1) + 2 + 1)))))), (4, .int (nI (((s + 32) - 1) / 32)))], [.int (nI (((s + 32) - 1) / 32)), .int (nI ((fw d A.1 A.2 U).2.2.1)), .ref 8])) (h' := (Gc L xs (A.1, 0) B (fw d A.1 A.2 U) V S d X)) (fun _ _ => rfl) ?_
  refine eR.call (k' := 89) (as := [.ref 8, .int (nI ((fw d A.1 A.2 U).2.2.1)), .int (nI (((s + 32) - 1) / 32))]) (rest := []) (v := none) (h1 := (Gc L xs (A.1, 0) B (fw d A.1 A.2 U) V S (dr d (fw d A.1 A.2 U).2.2.1 ((s + 32 - 1) / 32)) X)) rfl rfl rfl rfl (eg (Nat.le_of_ble_eq_true rfl) (show 24 ≤ lo by omega) (Nat.le_of_ble_eq_true rfl)) (c_drop (show 88 ≤ lo - 24 by omega) hd hi (by omega)) ?_
  refine eR.step 2 (F' := (67, [(0, .ref 3), (1, .int (nI (s))), (2, .int (nI ((fw d A.1 A.2 U).2.2.1))), (3, .int (nI (d (32 + (16 * (fw d A.1 A.2 U).2.2.1) + 2) + (256 * (d (32 + (16 * (fw d A.1 A.2 U).2.2.1) + 2 + 1)))))), (4, .int (nI (((s + 32) - 1) / 32))), (5, .int (nI (s)))], [])) (h' := (Gc L xs (A.1, 0) B (fw d A.1 A.2 U) V S (dr d (fw d A.1 A.2 U).2.2.1 ((s + 32 - 1) / 32)) X)) (fun _ _ => rfl) ?_
  refine l_trunc (U := (fw d A.1 A.2 U)) (show 132 ≤ lo by omega) hi (by omega) ((s + 32 - 1) / 32 * 32 - s) s _ (dr_dk hd _ _) (by omega) ?_
  refine eR.step 4 (F' := (100, [(0, .ref 3), (1, .int (nI (s))), (2, .int (nI ((fw d A.1 A.2 U).2.2.1))), (3, .int (nI (d (32 + (16 * (fw d A.1 A.2 U).2.2.1) + 2) + (256 * (d (32 + (16 * (fw d A.1 A.2 U).2.2.1) + 2 + 1)))))), (4, .int (nI (((s + 32) - 1) / 32))), (5, .int (nI ((s + 32 - 1) / 32 * 32)))], [.int (nI (s)), .int (nI ((fw d A.1 A.2 U).2.2.1)), .ref 8])) (h' := (Gc L xs (A.1, 0) B (fw d A.1 A.2 U) V S (pz (fw d A.1 A.2 U).2.2.1 (dr d (fw d A.1 A.2 U).2.2.1 ((s + 32 - 1) / 32)) s ((s + 32 - 1) / 32 * 32 - s)) X)) (fun _ _ => rfl) ?_
  refine eR.call (k' := 23) (as := [.ref 8, .int (nI ((fw d A.1 A.2 U).2.2.1)), .int (nI (s))]) (rest := []) (v := none) (h1 := (Gc L xs (A.1, 0) B (fw d A.1 A.2 U) V S (ss (pz (fw d A.1 A.2 U).2.2.1 (dr d (fw d A.1 A.2 U).2.2.1 ((s + 32 - 1) / 32)) s ((s + 32 - 1) / 32 * 32 - s)) (fw d A.1 A.2 U).2.2.1 s) X)) rfl rfl rfl rfl (eg (Nat.le_of_ble_eq_true rfl) (show 23 ≤ lo by omega) (Nat.le_of_ble_eq_true rfl)) (c_setSize (show 22 ≤ lo - 23 by omega) hi (by omega)) ?_
  refine eR.step 1 (F' := (104, [(0, .ref 3), (1, .int (nI (s))), (2, .int (nI ((fw d A.1 A.2 U).2.2.1))), (3, .int (nI (d (32 + (16 * (fw d A.1 A.2 U).2.2.1) + 2) + (256 * (d (32 + (16 * (fw d A.1 A.2 U).2.2.1) + 2 + 1)))))), (4, .int (nI (((s + 32) - 1) / 32))), (5, .int (nI ((s + 32 - 1) / 32 * 32)))], [.int (nI (d (32 + (16 * (fw d A.1 A.2 U).2.2.1) + 2) + (256 * (d (32 + (16 * (fw d A.1 A.2 U).2.2.1) + 2 + 1)))))])) (h' := (Gc L xs (A.1, 0) B (fw d A.1 A.2 U) V S (ss (pz (fw d A.1 A.2 U).2.2.1 (dr d (fw d A.1 A.2 U).2.2.1 ((s + 32 - 1) / 32)) s ((s + 32 - 1) / 32 * 32 - s)) (fw d A.1 A.2 U).2.2.1 s) X)) (fun _ _ => rfl) ?_
  exact eR.ret rfl rfl rfl

