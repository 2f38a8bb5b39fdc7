theorem c_thing_19 {cm sm fr lo L : Nat} {xs : Nat → Int32} {A B : gT} {U V : gU} {S : gS} {d : Nat → Nat} {X : mj_H} (hlo : 41 ≤ lo) (hd : dk d) (h0 : d 11 ≠ 0) (hb : U.2.2.1 < 2 ^ 20) (h1 : U.2.2.1 ≠ 0) : eE mm_P cm sm (fr + 3) lo 85 [.ref 3, .ref 19] (Gc L xs A B U V S d X) (.inl (some (.int (nI (U.2.2.1)))), (Gc L xs A B U V S d X)) := by
  refine eE.of ?_
  refine eR.step 1 (F' := (1, [(0, .ref 3), (1, .ref 19)], [.ref 3])) (h' := (Gc L xs A B U V S d X)) (fun _ _ => rfl) ?_
  refine eR.call (k' := 73) (as := [.ref 3]) (rest := []) (v := none) (h1 := (Gc L xs A B U V S d X)) rfl rfl rfl rfl (eg (Nat.le_of_ble_eq_true rfl) (show 20 ≤ lo by omega) (Nat.le_of_ble_eq_true rfl)) (c_reqClean (show 21 ≤ lo - 20 by omega) hd h0) ?_
  refine eR.step 2 (F' := (8, [(0, .ref 3), (1, .ref 19)], [.int (nI (U.2.2.1))])) (h' := (Gc L xs A B U V S d X)) (fun _ _ => rfl) ?_
  refine eR.ifc rfl true ((nc_ne (b := 0) (by omega) (by decide)).trans (decide_eq_true (by omega))) ?_
  refine eR.step 2 (F' := (26, [(0, .ref 3), (1, .ref 19)], [.int (nI (U.2.2.1))])) (h' := (Gc L xs A B U V S d X)) (fun _ _ => rfl) ?_
  exact eR.ret rfl rfl rfl
theorem c_thing_19T0 {cm sm fr lo L : Nat} {xs : Nat → Int32} {A B : gT} {U V : gU} {S : gS} {d : Nat → Nat} {X : mj_H} (hlo : 121 ≤ lo) (hR : gR cm sm L X) (hd : dk d) (h0 : d 11 = 0) : eE mm_P cm sm (fr + 7) lo 85 [.ref 3, .ref 19] (Gc L xs A B U V S d X) (.inr (23 + X.length), (Gc L xs A B U V S d (X ++ [.inr (0, [])]))) := by
  refine eE.of ?_
  refine eR.step 1 (F' := (1, [(0, .ref 3), (1, .ref 19)], [.ref 3])) (h' := (Gc L xs A B U V S d X)) (fun _ _ => rfl) ?_
  exact eR.callU (k' := 73) (as := [.ref 3]) (rest := []) (cx := 0) (fs := []) (h1 := (Gc L xs A B U V S d (X ++ [.inr (0, [])]))) rfl rfl rfl rfl (eg (Nat.le_of_ble_eq_true rfl) (show 20 ≤ lo by omega) (Nat.le_of_ble_eq_true rfl)) (c_reqCleanT (show 101 ≤ lo - 20 by omega) hR hd h0) (Gc_top ..) rfl rfl rfl
theorem c_thing_19T1 {cm sm fr lo L : Nat} {xs : Nat → Int32} {A B : gT} {U V : gU} {S : gS} {d : Nat → Nat} {X : mj_H} (hlo : 121 ≤ lo) (hR : gR cm sm L X) (hd : dk d) (h0 : d 11 ≠ 0) (h1 : U.2.2.1 = 0) : eE mm_P cm sm (fr + 6) lo 85 [.ref 3, .ref 19] (Gc L xs A B U V S d X) (.inr (23 + X.length), (Gc L xs A B U V S d (X ++ [.inr (1, [])]))) := by
  refine eE.of ?_
  refine eR.step 1 (F' := (1, [(0, .ref 3), (1, .ref 19)], [.ref 3])) (h' := (Gc L xs A B U V S d X)) (fun _ _ => rfl) ?_
  refine eR.call (k' := 73) (as := [.ref 3]) (rest := []) (v := none) (h1 := (Gc L xs A B U V S d X)) rfl rfl rfl rfl (eg (Nat.le_of_ble_eq_true rfl) (show 20 ≤ lo by omega) (Nat.le_of_ble_eq_true rfl)) (c_reqClean (show 21 ≤ lo - 20 by omega) hd h0) ?_
  refine eR.step 2 (F' := (8, [(0, .ref 3), (1, .ref 19)], [.int (nI (U.2.2.1))])) (h' := (Gc L xs A B U V S d X)) (fun _ _ => rfl) ?_
  refine eR.ifc rfl false ((nc_ne (b := 0) (by omega) (by decide)).trans (decide_eq_false (by omega))) ?_
  exact thrG (cx := 1) rfl rfl rfl rfl rfl rfl rfl (by omega) (by omega) hR
theorem c_file_19 {cm sm fr lo L : Nat} {xs : Nat → Int32} {A B : gT} {U V : gU} {S : gS} {d : Nat → Nat} {X : mj_H} (hlo : 62 ≤ lo) (hd : dk d) (h0 : d 11 ≠ 0) (hb : U.2.2.1 < 2 ^ 20) (h1 : U.2.2.1 ≠ 0) (h2 : d (32 + (16 * U.2.2.1)) ≠ 2) : eE mm_P cm sm (fr + 4) lo 84 [.ref 3, .ref 19] (Gc L xs A B U V S d X) (.inl (some (.int (nI (U.2.2.1)))), (Gc L xs A B U V S d X)) := by
  refine eE.of ?_
  refine eR.step 2 (F' := (2, [(0, .ref 3), (1, .ref 19)], [.ref 19, .ref 3])) (h' := (Gc L xs A B U V S d X)) (fun _ _ => rfl) ?_
  refine eR.call (k' := 85) (as := [.ref 3, .ref 19]) (rest := []) (v := some (.int (nI (U.2.2.1)))) (h1 := (Gc L xs A B U V S d X)) rfl rfl rfl rfl (eg (Nat.le_of_ble_eq_true rfl) (show 21 ≤ lo by omega) (Nat.le_of_ble_eq_true rfl)) (c_thing_19 (show 41 ≤ lo - 21 by omega) hd h0 hb h1) ?_
  refine eR.step 4 (F' := (11, [(0, .ref 3), (1, .ref 19), (2, .int (nI (U.2.2.1)))], [.int (nI (U.2.2.1)), .ref 8])) (h' := (Gc L xs A B U V S d X)) (fun _ _ => rfl) ?_
  have h6 := hd.1 (32 + (16 * U.2.2.1))
  refine eR.call (k' := 41) (as := [.ref 8, .int (nI (U.2.2.1))]) (rest := []) (v := some (.int (nI (d (32 + (16 * U.2.2.1)))))) (h1 := (Gc L xs A B U V S d X)) rfl rfl rfl rfl (eg (Nat.le_of_ble_eq_true rfl) (show 21 ≤ lo by omega) (Nat.le_of_ble_eq_true rfl)) (c_kind (show 21 ≤ lo - 21 by omega) hd hb) ?_
  refine eR.step 1 (F' := (15, [(0, .ref 3), (1, .ref 19), (2, .int (nI (U.2.2.1)))], [.int (nI 2), .int (nI (d (32 + (16 * U.2.2.1))))])) (h' := (Gc L xs A B U V S d X)) (fun _ _ => rfl) ?_
  refine eR.icmp rfl true ((nc_ne (by omega) (by omega)).trans (decide_eq_true (by omega))) ?_
  refine eR.step 1 (F' := (30, [(0, .ref 3), (1, .ref 19), (2, .int (nI (U.2.2.1)))], [.int (nI (U.2.2.1))])) (h' := (Gc L xs A B U V S d X)) (fun _ _ => rfl) ?_
  exact eR.ret rfl rfl rfl
theorem c_file_19T0 {cm sm fr lo L : Nat} {xs : Nat → Int32} {A B : gT} {U V : gU} {S : gS} {d : Nat → Nat} {X : mj_H} (hlo : 150 ≤ lo) (hR : gR cm sm L X) (hd : dk d) (h0 : d 11 = 0) : eE mm_P cm sm (fr + 8) lo 84 [.ref 3, .ref 19] (Gc L xs A B U V S d X) (.inr (23 + X.length), (Gc L xs A B U V S d (X ++ [.inr (0, [])]))) := by
  refine eE.of ?_
  refine eR.step 2 (F' := (2, [(0, .ref 3), (1, .ref 19)], [.ref 19, .ref 3])) (h' := (Gc L xs A B U V S d X)) (fun _ _ => rfl) ?_
  exact eR.callU (k' := 85) (as := [.ref 3, .ref 19]) (rest := []) (cx := 0) (fs := []) (h1 := (Gc L xs A B U V S d (X ++ [.inr (0, [])]))) rfl rfl rfl rfl (eg (Nat.le_of_ble_eq_true rfl) (show 21 ≤ lo by omega) (Nat.le_of_ble_eq_true rfl)) (c_thing_19T0 (show 121 ≤ lo - 21 by omega) hR hd h0) (Gc_top ..) rfl rfl rfl
theorem c_file_19T1 {cm sm fr lo L : Nat} {xs : Nat → Int32} {A B : gT} {U V : gU} {S : gS} {d : Nat → Nat} {X : mj_H} (hlo : 150 ≤ lo) (hR : gR cm sm L X) (hd : dk d) (h0 : d 11 ≠ 0) (h1 : U.2.2.1 = 0) : eE mm_P cm sm (fr + 8) lo 84 [.ref 3, .ref 19] (Gc L xs A B U V S d X) (.inr (23 + X.length), (Gc L xs A B U V S d (X ++ [.inr (1, [])]))) := by
  refine eE.of ?_
  refine eR.step 2 (F' := (2, [(0, .ref 3), (1, .ref 19)], [.ref 19, .ref 3])) (h' := (Gc L xs A B U V S d X)) (fun _ _ => rfl) ?_
  exact eR.callU (k' := 85) (as := [.ref 3, .ref 19]) (rest := []) (cx := 1) (fs := []) (h1 := (Gc L xs A B U V S d (X ++ [.inr (1, [])]))) rfl rfl rfl rfl (eg (Nat.le_of_ble_eq_true rfl) (show 21 ≤ lo by omega) (Nat.le_of_ble_eq_true rfl)) (c_thing_19T1 (show 121 ≤ lo - 21 by omega) hR hd h0 h1) (Gc_top ..) rfl rfl rfl
theorem c_file_19T2 {cm sm fr lo L : Nat} {xs : Nat → Int32} {A B : gT} {U V : gU} {S : gS} {d : Nat → Nat} {X : mj_H} (hlo : 150 ≤ lo) (hR : gR cm sm L X) (hd : dk d) (h0 : d 11 ≠ 0) (hb : U.2.2.1 < 2 ^ 20) (h1 : U.2.2.1 ≠ 0) (h2 : d (32 + (16 * U.2.2.1)) = 2) : eE mm_P cm sm (fr + 8) lo 84 [.ref 3, .ref 19] (Gc L xs A B U V S d X) (.inr (23 + X.length), (Gc L xs A B U V S d (X ++ [.inr (2, [])]))) := by
  refine eE.of ?_
  refine eR.step 2 (F' := (2, [(0, .ref 3), (1, .ref 19)], [.ref 19, .ref 3])) (h' := (Gc L xs A B U V S d X)) (fun _ _ => rfl) ?_
  refine eR.call (k' := 85) (as := [.ref 3, .ref 19]) (rest := []) (v := some (.int (nI (U.2.2.1)))) (h1 := (Gc L xs A B U V S d X)) rfl rfl rfl rfl (eg (Nat.le_of_ble_eq_true rfl) (show 21 ≤ lo by omega) (Nat.le_of_ble_eq_true rfl)) (c_thing_19 (show 41 ≤ lo - 21 by omega) hd h0 hb h1) ?_
  refine eR.step 4 (F' := (11, [(0, .ref 3), (1, .ref 19), (2, .int (nI (U.2.2.1)))], [.int (nI (U.2.2.1)), .ref 8])) (h' := (Gc L xs A B U V S d X)) (fun _ _ => rfl) ?_
  have h6 := hd.1 (32 + (16 * U.2.2.1))
  refine eR.call (k' := 41) (as := [.ref 8, .int (nI (U.2.2.1))]) (rest := []) (v := some (.int (nI (d (32 + (16 * U.2.2.1)))))) (h1 := (Gc L xs A B U V S d X)) rfl rfl rfl rfl (eg (Nat.le_of_ble_eq_true rfl) (show 21 ≤ lo by omega) (Nat.le_of_ble_eq_true rfl)) (c_kind (show 21 ≤ lo - 21 by omega) hd hb) ?_
  refine eR.step 1 (F' := (15, [(0, .ref 3), (1, .ref 19), (2, .int (nI (U.2.2.1)))], [.int (nI 2), .int (nI (d (32 + (16 * U.2.2.1))))])) (h' := (Gc L xs A B U V S d X)) (fun _ _ => rfl) ?_
  refine eR.icmp rfl false ((nc_ne (by omega) (by omega)).trans (decide_eq_false (by omega))) ?_
  exact thrG (cx := 2) rfl rfl rfl rfl rfl rfl rfl (by omega) (by omega) hR
theorem c_thing_21 {cm sm fr lo L : Nat} {xs : Nat → Int32} {A B : gT} {U V : gU} {S : gS} {d : Nat → Nat} {X : mj_H} (hlo : 41 ≤ lo) (hd : dk d) (h0 : d 11 ≠ 0) (hb : V.2.2.1 < 2 ^ 20) (h1 : V.2.2.1 ≠ 0) : eE mm_P cm sm (fr + 3) lo 85 [.ref 3, .ref 21] (Gc L xs A B U V S d X) (.inl (some (.int (nI (V.2.2.1)))), (Gc L xs A B U V S d X)) := by
  refine eE.of ?_
  refine eR.step 1 (F' := (1, [(0, .ref 3), (1, .ref 21)], [.ref 3])) (h' := (Gc L xs A B U V S d X)) (fun _ _ => rfl) ?_
  refine eR.call (k' := 73) (as := [.ref 3]) (rest := []) (v := none) (h1 := (Gc L xs A B U V S d X)) rfl rfl rfl rfl (eg (Nat.le_of_ble_eq_true rfl) (show 20 ≤ lo by omega) (Nat.le_of_ble_eq_true rfl)) (c_reqClean (show 21 ≤ lo - 20 by omega) hd h0) ?_
  refine eR.step 2 (F' := (8, [(0, .ref 3), (1, .ref 21)], [.int (nI (V.2.2.1))])) (h' := (Gc L xs A B U V S d X)) (fun _ _ => rfl) ?_
  refine eR.ifc rfl true ((nc_ne (b := 0) (by omega) (by decide)).trans (decide_eq_true (by omega))) ?_
  refine eR.step 2 (F' := (26, [(0, .ref 3), (1, .ref 21)], [.int (nI (V.2.2.1))])) (h' := (Gc L xs A B U V S d X)) (fun _ _ => rfl) ?_
  exact eR.ret rfl rfl rfl
theorem c_thing_21T0 {cm sm fr lo L : Nat} {xs : Nat → Int32} {A B : gT} {U V : gU} {S : gS} {d : Nat → Nat} {X : mj_H} (hlo : 121 ≤ lo) (hR : gR cm sm L X) (hd : dk d) (h0 : d 11 = 0) : eE mm_P cm sm (fr + 7) lo 85 [.ref 3, .ref 21] (Gc L xs A B U V S d X) (.inr (23 + X.length), (Gc L xs A B U V S d (X ++ [.inr (0, [])]))) := by
  refine eE.of ?_
  refine eR.step 1 (F' := (1, [(0, .ref 3), (1, .ref 21)], [.ref 3])) (h' := (Gc L xs A B U V S d X)) (fun _ _ => rfl) ?_
  exact eR.callU (k' := 73) (as := [.ref 3]) (rest := []) (cx := 0) (fs := []) (h1 := (Gc L xs A B U V S d (X ++ [.inr (0, [])]))) rfl rfl rfl rfl (eg (Nat.le_of_ble_eq_true rfl) (show 20 ≤ lo by omega) (Nat.le_of_ble_eq_true rfl)) (c_reqCleanT (show 101 ≤ lo - 20 by omega) hR hd h0) (Gc_top ..) rfl rfl rfl
theorem c_thing_21T1 {cm sm fr lo L : Nat} {xs : Nat → Int32} {A B : gT} {U V : gU} {S : gS} {d : Nat → Nat} {X : mj_H} (hlo : 121 ≤ lo) (hR : gR cm sm L X) (hd : dk d) (h0 : d 11 ≠ 0) (h1 : V.2.2.1 = 0) : eE mm_P cm sm (fr + 6) lo 85 [.ref 3, .ref 21] (Gc L xs A B U V S d X) (.inr (23 + X.length), (Gc L xs A B U V S d (X ++ [.inr (1, [])]))) := by
  refine eE.of ?_
  refine eR.step 1 (F' := (1, [(0, .ref 3), (1, .ref 21)], [.ref 3])) (h' := (Gc L xs A B U V S d X)) (fun _ _ => rfl) ?_
  refine eR.call (k' := 73) (as := [.ref 3]) (rest := []) (v := none) (h1 := (Gc L xs A B U V S d X)) rfl rfl rfl rfl (eg (Nat.le_of_ble_eq_true rfl) (show 20 ≤ lo by omega) (Nat.le_of_ble_eq_true rfl)) (c_reqClean (show 21 ≤ lo - 20 by omega) hd h0) ?_
  refine eR.step 2 (F' := (8, [(0, .ref 3), (1, .ref 21)], [.int (nI (V.2.2.1))])) (h' := (Gc L xs A B U V S d X)) (fun _ _ => rfl) ?_
  refine eR.ifc rfl false ((nc_ne (b := 0) (by omega) (by decide)).trans (decide_eq_false (by omega))) ?_
  exact thrG (cx := 1) rfl rfl rfl rfl rfl rfl rfl (by omega) (by omega) hR
theorem c_file_21 {cm sm fr lo L : Nat} {xs : Nat → Int32} {A B : gT} {U V : gU} {S : gS} {d : Nat → Nat} {X : mj_H} (hlo : 62 ≤ lo) (hd : dk d) (h0 : d 11 ≠ 0) (hb : V.2.2.1 < 2 ^ 20) (h1 : V.2.2.1 ≠ 0) (h2 : d (32 + (16 * V.2.2.1)) ≠ 2) : eE mm_P cm sm (fr + 4) lo 84 [.ref 3, .ref 21] (Gc L xs A B U V S d X) (.inl (some (.int (nI (V.2.2.1)))), (Gc L xs A B U V S d X)) := by
  refine eE.of ?_
  refine eR.step 2 (F' := (2, [(0, .ref 3), (1, .ref 21)], [.ref 21, .ref 3])) (h' := (Gc L xs A B U V S d X)) (fun _ _ => rfl) ?_
  refine eR.call (k' := 85) (as := [.ref 3, .ref 21]) (rest := []) (v := some (.int (nI (V.2.2.1)))) (h1 := (Gc L xs A B U V S d X)) rfl rfl rfl rfl (eg (Nat.le_of_ble_eq_true rfl) (show 21 ≤ lo by omega) (Nat.le_of_ble_eq_true rfl)) (c_thing_21 (show 41 ≤ lo - 21 by omega) hd h0 hb h1) ?_
  refine eR.step 4 (F' := (11, [(0, .ref 3), (1, .ref 21), (2, .int (nI (V.2.2.1)))], [.int (nI (V.2.2.1)), .ref 8])) (h' := (Gc L xs A B U V S d X)) (fun _ _ => rfl) ?_
  have h6 := hd.1 (32 + (16 * V.2.2.1))
  refine eR.call (k' := 41) (as := [.ref 8, .int (nI (V.2.2.1))]) (rest := []) (v := some (.int (nI (d (32 + (16 * V.2.2.1)))))) (h1 := (Gc L xs A B U V S d X)) rfl rfl rfl rfl (eg (Nat.le_of_ble_eq_true rfl) (show 21 ≤ lo by omega) (Nat.le_of_ble_eq_true rfl)) (c_kind (show 21 ≤ lo - 21 by omega) hd hb) ?_
  refine eR.step 1 (F' := (15, [(0, .ref 3), (1, .ref 21), (2, .int (nI (V.2.2.1)))], [.int (nI 2), .int (nI (d (32 + (16 * V.2.2.1))))])) (h' := (Gc L xs A B U V S d X)) (fun _ _ => rfl) ?_
  refine eR.icmp rfl true ((nc_ne (by omega) (by omega)).trans (decide_eq_true (by omega))) ?_
  refine eR.step 1 (F' := (30, [(0, .ref 3), (1, .ref 21), (2, .int (nI (V.2.2.1)))], [.int (nI (V.2.2.1))])) (h' := (Gc L xs A B U V S d X)) (fun _ _ => rfl) ?_
  exact eR.ret rfl rfl rfl
theorem c_file_21T0 {cm sm fr lo L : Nat} {xs : Nat → Int32} {A B : gT} {U V : gU} {S : gS} {d : Nat → Nat} {X : mj_H} (hlo : 150 ≤ lo) (hR : gR cm sm L X) (hd : dk d) (h0 : d 11 = 0) : eE mm_P cm sm (fr + 8) lo 84 [.ref 3, .ref 21] (Gc L xs A B U V S d X) (.inr (23 + X.length), (Gc L xs A B U V S d (X ++ [.inr (0, [])]))) := by
  refine eE.of ?_
  refine eR.step 2 (F' := (2, [(0, .ref 3), (1, .ref 21)], [.ref 21, .ref 3])) (h' := (Gc L xs A B U V S d X)) (fun _ _ => rfl) ?_
  exact eR.callU (k' := 85) (as := [.ref 3, .ref 21]) (rest := []) (cx := 0) (fs := []) (h1 := (Gc L xs A B U V S d (X ++ [.inr (0, [])]))) rfl rfl rfl rfl (eg (Nat.le_of_ble_eq_true rfl) (show 21 ≤ lo by omega) (Nat.le_of_ble_eq_true rfl)) (c_thing_21T0 (show 121 ≤ lo - 21 by omega) hR hd h0) (Gc_top ..) rfl rfl rfl
theorem c_file_21T1 {cm sm fr lo L : Nat} {xs : Nat → Int32} {A B : gT} {U V : gU} {S : gS} {d : Nat → Nat} {X : mj_H} (hlo : 150 ≤ lo) (hR : gR cm sm L X) (hd : dk d) (h0 : d 11 ≠ 0) (h1 : V.2.2.1 = 0) : eE mm_P cm sm (fr + 8) lo 84 [.ref 3, .ref 21] (Gc L xs A B U V S d X) (.inr (23 + X.length), (Gc L xs A B U V S d (X ++ [.inr (1, [])]))) := by
  refine eE.of ?_
  refine eR.step 2 (F' := (2, [(0, .ref 3), (1, .ref 21)], [.ref 21, .ref 3])) (h' := (Gc L xs A B U V S d X)) (fun _ _ => rfl) ?_
  exact eR.callU (k' := 85) (as := [.ref 3, .ref 21]) (rest := []) (cx := 1) (fs := []) (h1 := (Gc L xs A B U V S d (X ++ [.inr (1, [])]))) rfl rfl rfl rfl (eg (Nat.le_of_ble_eq_true rfl) (show 21 ≤ lo by omega) (Nat.le_of_ble_eq_true rfl)) (c_thing_21T1 (show 121 ≤ lo - 21 by omega) hR hd h0 h1) (Gc_top ..) rfl rfl rfl
theorem c_file_21T2 {cm sm fr lo L : Nat} {xs : Nat → Int32} {A B : gT} {U V : gU} {S : gS} {d : Nat → Nat} {X : mj_H} (hlo : 150 ≤ lo) (hR : gR cm sm L X) (hd : dk d) (h0 : d 11 ≠ 0) (hb : V.2.2.1 < 2 ^ 20) (h1 : V.2.2.1 ≠ 0) (h2 : d (32 + (16 * V.2.2.1)) = 2) : eE mm_P cm sm (fr + 8) lo 84 [.ref 3, .ref 21] (Gc L xs A B U V S d X) (.inr (23 + X.length), (Gc L xs A B U V S d (X ++ [.inr (2, [])]))) := by
  refine eE.of ?_
  refine eR.step 2 (F' := (2, [(0, .ref 3), (1, .ref 21)], [.ref 21, .ref 3])) (h' := (Gc L xs A B U V S d X)) (fun _ _ => rfl) ?_
  refine eR.call (k' := 85) (as := [.ref 3, .ref 21]) (rest := []) (v := some (.int (nI (V.2.2.1)))) (h1 := (Gc L xs A B U V S d X)) rfl rfl rfl rfl (eg (Nat.le_of_ble_eq_true rfl) (show 21 ≤ lo by omega) (Nat.le_of_ble_eq_true rfl)) (c_thing_21 (show 41 ≤ lo - 21 by omega) hd h0 hb h1) ?_
  refine eR.step 4 (F' := (11, [(0, .ref 3), (1, .ref 21), (2, .int (nI (V.2.2.1)))], [.int (nI (V.2.2.1)), .ref 8])) (h' := (Gc L xs A B U V S d X)) (fun _ _ => rfl) ?_
  have h6 := hd.1 (32 + (16 * V.2.2.1))
  refine eR.call (k' := 41) (as := [.ref 8, .int (nI (V.2.2.1))]) (rest := []) (v := some (.int (nI (d (32 + (16 * V.2.2.1)))))) (h1 := (Gc L xs A B U V S d X)) rfl rfl rfl rfl (eg (Nat.le_of_ble_eq_true rfl) (show 21 ≤ lo by omega) (Nat.le_of_ble_eq_true rfl)) (c_kind (show 21 ≤ lo - 21 by omega) hd hb) ?_
  refine eR.step 1 (F' := (15, [(0, .ref 3), (1, .ref 21), (2, .int (nI (V.2.2.1)))], [.int (nI 2), .int (nI (d (32 + (16 * V.2.2.1))))])) (h' := (Gc L xs A B U V S d X)) (fun _ _ => rfl) ?_
  refine eR.icmp rfl false ((nc_ne (by omega) (by omega)).trans (decide_eq_false (by omega))) ?_
  exact thrG (cx := 2) rfl rfl rfl rfl rfl rfl rfl (by omega) (by omega) hR
theorem c_linkT0 {cm sm fr lo L : Nat} {xs : Nat → Int32} {A B : gT} {U V : gU} {S : gS} {d : Nat → Nat} {X : mj_H} (hlo : 200 ≤ lo) (hR : gR cm sm L X) (hd : dk d) (ht : ∀ k, A.1 k < 65536) (hl : A.2 ≤ 40) (hn : ∀ k, U.2.2.2 k < 128) (ht2 : ∀ k, B.1 k < 65536) (hl2 : B.2 ≤ 40) (hn2 : ∀ k, V.2.2.2 k < 128) (h0 : d 11 = 0) : eE mm_P cm sm (fr + 9) lo 82 [.ref 3] (Gc L xs A B U V S d X) (.inr (23 + X.length), (Gc L xs (A.1, 0) (B.1, 0) (fw d A.1 A.2 U) (fw d B.1 B.2 V) S d (X ++ [.inr (0, [])]))) := by
  refine eE.of ?_
  refine eR.step 1 (F' := (1, [(0, .ref 3)], [.ref 3])) (h' := (Gc L xs A B U V S d X)) (fun _ _ => rfl) ?_
  have hk := fw_pk (t := A.1) (l := A.2) hd hn
  have hp : (fw d A.1 A.2 U).1 < 2 ^ 20 := Nat.lt_trans hk.1 (by decide)
  have hi : (fw d A.1 A.2 U).2.2.1 < 2 ^ 20 := Nat.lt_trans hk.2.2.1 (by decide)
  have hs : (fw d A.1 A.2 U).2.1 < 2 ^ 20 := Nat.lt_trans hk.2.1 (by decide)
  refine eR.call (k' := 64) (as := [.ref 3]) (rest := []) (v := none) (h1 := (Gc L xs (A.1, 0) B (fw d A.1 A.2 U) V S d X)) rfl rfl rfl rfl (eg (Nat.le_of_ble_eq_true rfl) (show 20 ≤ lo by omega) (Nat.le_of_ble_eq_true rfl)) (c_takePath_15 (show 112 ≤ lo - 20 by omega) hd ht hl hn) ?_
  refine eR.step 1 (F' := (5, [(0, .ref 3)], [.ref 3])) (h' := (Gc L xs (A.1, 0) B (fw d A.1 A.2 U) V S d X)) (fun _ _ => rfl) ?_
  have hk2 := fw_pk (t := B.1) (l := B.2) hd hn2
  have hp2 : (fw d B.1 B.2 V).1 < 2 ^ 20 := Nat.lt_trans hk2.1 (by decide)
  have hi2 : (fw d B.1 B.2 V).2.2.1 < 2 ^ 20 := Nat.lt_trans hk2.2.2.1 (by decide)
  have hs2 : (fw d B.1 B.2 V).2.1 < 2 ^ 20 := Nat.lt_trans hk2.2.1 (by decide)
  refine eR.call (k' := 83) (as := [.ref 3]) (rest := []) (v := none) (h1 := (Gc L xs (A.1, 0) (B.1, 0) (fw d A.1 A.2 U) (fw d B.1 B.2 V) S d X)) rfl rfl rfl rfl (eg (Nat.le_of_ble_eq_true rfl) (show 20 ≤ lo by omega) (Nat.le_of_ble_eq_true rfl)) (c_takePath_17 (show 112 ≤ lo - 20 by omega) hd ht2 hl2 hn2) ?_
  refine eR.step 1 (F' := (9, [(0, .ref 3)], [.ref 3])) (h' := (Gc L xs (A.1, 0) (B.1, 0) (fw d A.1 A.2 U) (fw d B.1 B.2 V) S d X)) (fun _ _ => rfl) ?_
  exact eR.callU (k' := 72) (as := [.ref 3]) (rest := []) (cx := 0) (fs := []) (h1 := (Gc L xs (A.1, 0) (B.1, 0) (fw d A.1 A.2 U) (fw d B.1 B.2 V) S d (X ++ [.inr (0, [])]))) rfl rfl rfl rfl (eg (Nat.le_of_ble_eq_true rfl) (show 20 ≤ lo by omega) (Nat.le_of_ble_eq_true rfl)) (c_reqNewT0 (U := (fw d A.1 A.2 U)) (show 121 ≤ lo - 20 by omega) hR hd h0) (Gc_top ..) rfl rfl rfl
theorem c_linkT1 {cm sm fr lo L : Nat} {xs : Nat → Int32} {A B : gT} {U V : gU} {S : gS} {d : Nat → Nat} {X : mj_H} (hlo : 200 ≤ lo) (hR : gR cm sm L X) (hd : dk d) (ht : ∀ k, A.1 k < 65536) (hl : A.2 ≤ 40) (hn : ∀ k, U.2.2.2 k < 128) (ht2 : ∀ k, B.1 k < 65536) (hl2 : B.2 ≤ 40) (hn2 : ∀ k, V.2.2.2 k < 128) (h0 : d 11 ≠ 0) (h1 : (fw d A.1 A.2 U).1 = 0) : eE mm_P cm sm (fr + 9) lo 82 [.ref 3] (Gc L xs A B U V S d X) (.inr (23 + X.length), (Gc L xs (A.1, 0) (B.1, 0) (fw d A.1 A.2 U) (fw d B.1 B.2 V) S d (X ++ [.inr (1, [])]))) := by
  refine eE.of ?_
  refine eR.step 1 (F' := (1, [(0, .ref 3)], [.ref 3])) (h' := (Gc L xs A B U V S d X)) (fun _ _ => rfl) ?_
  have hk := fw_pk (t := A.1) (l := A.2) hd hn
  have hp : (fw d A.1 A.2 U).1 < 2 ^ 20 := Nat.lt_trans hk.1 (by decide)
  have hi : (fw d A.1 A.2 U).2.2.1 < 2 ^ 20 := Nat.lt_trans hk.2.2.1 (by decide)
  have hs : (fw d A.1 A.2 U).2.1 < 2 ^ 20 := Nat.lt_trans hk.2.1 (by decide)
  refine eR.call (k' := 64) (as := [.ref 3]) (rest := []) (v := none) (h1 := (Gc L xs (A.1, 0) B (fw d A.1 A.2 U) V S d X)) rfl rfl rfl rfl (eg (Nat.le_of_ble_eq_true rfl) (show 20 ≤ lo by omega) (Nat.le_of_ble_eq_true rfl)) (c_takePath_15 (show 112 ≤ lo - 20 by omega) hd ht hl hn) ?_
  refine eR.step 1 (F' := (5, [(0, .ref 3)], [.ref 3])) (h' := (Gc L xs (A.1, 0) B (fw d A.1 A.2 U) V S d X)) (fun _ _ => rfl) ?_
  have hk2 := fw_pk (t := B.1) (l := B.2) hd hn2
  have hp2 : (fw d B.1 B.2 V).1 < 2 ^ 20 := Nat.lt_trans hk2.1 (by decide)
  have hi2 : (fw d B.1 B.2 V).2.2.1 < 2 ^ 20 := Nat.lt_trans hk2.2.2.1 (by decide)
  have hs2 : (fw d B.1 B.2 V).2.1 < 2 ^ 20 := Nat.lt_trans hk2.2.1 (by decide)
  refine eR.call (k' := 83) (as := [.ref 3]) (rest := []) (v := none) (h1 := (Gc L xs (A.1, 0) (B.1, 0) (fw d A.1 A.2 U) (fw d B.1 B.2 V) S d X)) rfl rfl rfl rfl (eg (Nat.le_of_ble_eq_true rfl) (show 20 ≤ lo by omega) (Nat.le_of_ble_eq_true rfl)) (c_takePath_17 (show 112 ≤ lo - 20 by omega) hd ht2 hl2 hn2) ?_
  refine eR.step 1 (F' := (9, [(0, .ref 3)], [.ref 3])) (h' := (Gc L xs (A.1, 0) (B.1, 0) (fw d A.1 A.2 U) (fw d B.1 B.2 V) S d X)) (fun _ _ => rfl) ?_
  exact eR.callU (k' := 72) (as := [.ref 3]) (rest := []) (cx := 1) (fs := []) (h1 := (Gc L xs (A.1, 0) (B.1, 0) (fw d A.1 A.2 U) (fw d B.1 B.2 V) S d (X ++ [.inr (1, [])]))) rfl rfl rfl rfl (eg (Nat.le_of_ble_eq_true rfl) (show 20 ≤ lo by omega) (Nat.le_of_ble_eq_true rfl)) (c_reqNewT1 (U := (fw d A.1 A.2 U)) (show 101 ≤ lo - 20 by omega) hR hd h0 h1) (Gc_top ..) rfl rfl rfl
theorem c_linkT2 {cm sm fr lo L : Nat} {xs : Nat → Int32} {A B : gT} {U V : gU} {S : gS} {d : Nat → Nat} {X : mj_H} (hlo : 200 ≤ lo) (hR : gR cm sm L X) (hd : dk d) (ht : ∀ k, A.1 k < 65536) (hl : A.2 ≤ 40) (hn : ∀ k, U.2.2.2 k < 128) (ht2 : ∀ k, B.1 k < 65536) (hl2 : B.2 ≤ 40) (hn2 : ∀ k, V.2.2.2 k < 128) (h0 : d 11 ≠ 0) (h1 : (fw d A.1 A.2 U).1 ≠ 0) (h2 : (fw d B.1 B.2 V).2.2.1 = 0) : eE mm_P cm sm (fr + 9) lo 82 [.ref 3] (Gc L xs A B U V S d X) (.inr (23 + X.length), (Gc L xs (A.1, 0) (B.1, 0) (fw d A.1 A.2 U) (fw d B.1 B.2 V) S d (X ++ [.inr (1, [])]))) := by
  refine eE.of ?_
  refine eR.step 1 (F' := (1, [(0, .ref 3)], [.ref 3])) (h' := (Gc L xs A B U V S d X)) (fun _ _ => rfl) ?_
  have hk := fw_pk (t := A.1) (l := A.2) hd hn
  have hp : (fw d A.1 A.2 U).1 < 2 ^ 20 := Nat.lt_trans hk.1 (by decide)
  have hi : (fw d A.1 A.2 U).2.2.1 < 2 ^ 20 := Nat.lt_trans hk.2.2.1 (by decide)
  have hs : (fw d A.1 A.2 U).2.1 < 2 ^ 20 := Nat.lt_trans hk.2.1 (by decide)
  refine eR.call (k' := 64) (as := [.ref 3]) (rest := []) (v := none) (h1 := (Gc L xs (A.1, 0) B (fw d A.1 A.2 U) V S d X)) rfl rfl rfl rfl (eg (Nat.le_of_ble_eq_true rfl) (show 20 ≤ lo by omega) (Nat.le_of_ble_eq_true rfl)) (c_takePath_15 (show 112 ≤ lo - 20 by omega) hd ht hl hn) ?_
  refine eR.step 1 (F' := (5, [(0, .ref 3)], [.ref 3])) (h' := (Gc L xs (A.1, 0) B (fw d A.1 A.2 U) V S d X)) (fun _ _ => rfl) ?_
  have hk2 := fw_pk (t := B.1) (l := B.2) hd hn2
  have hp2 : (fw d B.1 B.2 V).1 < 2 ^ 20 := Nat.lt_trans hk2.1 (by decide)
  have hi2 : (fw d B.1 B.2 V).2.2.1 < 2 ^ 20 := Nat.lt_trans hk2.2.2.1 (by decide)
  have hs2 : (fw d B.1 B.2 V).2.1 < 2 ^ 20 := Nat.lt_trans hk2.2.1 (by decide)
  refine eR.call (k' := 83) (as := [.ref 3]) (rest := []) (v := none) (h1 := (Gc L xs (A.1, 0) (B.1, 0) (fw d A.1 A.2 U) (fw d B.1 B.2 V) S d X)) rfl rfl rfl rfl (eg (Nat.le_of_ble_eq_true rfl) (show 20 ≤ lo by omega) (Nat.le_of_ble_eq_true rfl)) (c_takePath_17 (show 112 ≤ lo - 20 by omega) hd ht2 hl2 hn2) ?_
  refine eR.step 1 (F' := (9, [(0, .ref 3)], [.ref 3])) (h' := (Gc L xs (A.1, 0) (B.1, 0) (fw d A.1 A.2 U) (fw d B.1 B.2 V) S d X)) (fun _ _ => rfl) ?_
  refine eR.call (k' := 72) (as := [.ref 3]) (rest := []) (v := none) (h1 := (Gc L xs (A.1, 0) (B.1, 0) (fw d A.1 A.2 U) (fw d B.1 B.2 V) S d X)) rfl rfl rfl rfl (eg (Nat.le_of_ble_eq_true rfl) (show 20 ≤ lo by omega) (Nat.le_of_ble_eq_true rfl)) (c_reqNew (U := (fw d A.1 A.2 U)) (show 41 ≤ lo - 20 by omega) hd h0 h1 hp) ?_
  refine eR.step 3 (F' := (17, [(0, .ref 3)], [.ref 21, .ref 3])) (h' := (Gc L xs (A.1, 0) (B.1, 0) (fw d A.1 A.2 U) (fw d B.1 B.2 V) S d X)) (fun _ _ => rfl) ?_
  exact eR.callU (k' := 84) (as := [.ref 3, .ref 21]) (rest := []) (cx := 1) (fs := []) (h1 := (Gc L xs (A.1, 0) (B.1, 0) (fw d A.1 A.2 U) (fw d B.1 B.2 V) S d (X ++ [.inr (1, [])]))) rfl rfl rfl rfl (eg (Nat.le_of_ble_eq_true rfl) (show 22 ≤ lo by omega) (Nat.le_of_ble_eq_true rfl)) (c_file_21T1 (V := (fw d B.1 B.2 V)) (show 150 ≤ lo - 22 by omega) hR hd h0 h2) (Gc_top ..) rfl rfl rfl
theorem c_linkT3 {cm sm fr lo L : Nat} {xs : Nat → Int32} {A B : gT} {U V : gU} {S : gS} {d : Nat → Nat} {X : mj_H} (hlo : 200 ≤ lo) (hR : gR cm sm L X) (hd : dk d) (ht : ∀ k, A.1 k < 65536) (hl : A.2 ≤ 40) (hn : ∀ k, U.2.2.2 k < 128) (ht2 : ∀ k, B.1 k < 65536) (hl2 : B.2 ≤ 40) (hn2 : ∀ k, V.2.2.2 k < 128) (h0 : d 11 ≠ 0) (h1 : (fw d A.1 A.2 U).1 ≠ 0) (h2 : (fw d B.1 B.2 V).2.2.1 ≠ 0) (h3 : d (32 + (16 * (fw d B.1 B.2 V).2.2.1)) = 2) : eE mm_P cm sm (fr + 9) lo 82 [.ref 3] (Gc L xs A B U V S d X) (.inr (23 + X.length), (Gc L xs (A.1, 0) (B.1, 0) (fw d A.1 A.2 U) (fw d B.1 B.2 V) S d (X ++ [.inr (2, [])]))) := by
  refine eE.of ?_
  refine eR.step 1 (F' := (1, [(0, .ref 3)], [.ref 3])) (h' := (Gc L xs A B U V S d X)) (fun _ _ => rfl) ?_
  have hk := fw_pk (t := A.1) (l := A.2) hd hn
  have hp : (fw d A.1 A.2 U).1 < 2 ^ 20 := Nat.lt_trans hk.1 (by decide)
  have hi : (fw d A.1 A.2 U).2.2.1 < 2 ^ 20 := Nat.lt_trans hk.2.2.1 (by decide)
  have hs : (fw d A.1 A.2 U).2.1 < 2 ^ 20 := Nat.lt_trans hk.2.1 (by decide)
  refine eR.call (k' := 64) (as := [.ref 3]) (rest := []) (v := none) (h1 := (Gc L xs (A.1, 0) B (fw d A.1 A.2 U) V S d X)) rfl rfl rfl rfl (eg (Nat.le_of_ble_eq_true rfl) (show 20 ≤ lo by omega) (Nat.le_of_ble_eq_true rfl)) (c_takePath_15 (show 112 ≤ lo - 20 by omega) hd ht hl hn) ?_
  refine eR.step 1 (F' := (5, [(0, .ref 3)], [.ref 3])) (h' := (Gc L xs (A.1, 0) B (fw d A.1 A.2 U) V S d X)) (fun _ _ => rfl) ?_
  have hk2 := fw_pk (t := B.1) (l := B.2) hd hn2
  have hp2 : (fw d B.1 B.2 V).1 < 2 ^ 20 := Nat.lt_trans hk2.1 (by decide)
  have hi2 : (fw d B.1 B.2 V).2.2.1 < 2 ^ 20 := Nat.lt_trans hk2.2.2.1 (by decide)
  have hs2 : (fw d B.1 B.2 V).2.1 < 2 ^ 20 := Nat.lt_trans hk2.2.1 (by decide)
  refine eR.call (k' := 83) (as := [.ref 3]) (rest := []) (v := none) (h1 := (Gc L xs (A.1, 0) (B.1, 0) (fw d A.1 A.2 U) (fw d B.1 B.2 V) S d X)) rfl rfl rfl rfl (eg (Nat.le_of_ble_eq_true rfl) (show 20 ≤ lo by omega) (Nat.le_of_ble_eq_true rfl)) (c_takePath_17 (show 112 ≤ lo - 20 by omega) hd ht2 hl2 hn2) ?_
  refine eR.step 1 (F' := (9, [(0, .ref 3)], [.ref 3])) (h' := (Gc L xs (A.1, 0) (B.1, 0) (fw d A.1 A.2 U) (fw d B.1 B.2 V) S d X)) (fun _ _ => rfl) ?_
  refine eR.call (k' := 72) (as := [.ref 3]) (rest := []) (v := none) (h1 := (Gc L xs (A.1, 0) (B.1, 0) (fw d A.1 A.2 U) (fw d B.1 B.2 V) S d X)) rfl rfl rfl rfl (eg (Nat.le_of_ble_eq_true rfl) (show 20 ≤ lo by omega) (Nat.le_of_ble_eq_true rfl)) (c_reqNew (U := (fw d A.1 A.2 U)) (show 41 ≤ lo - 20 by omega) hd h0 h1 hp) ?_
  refine eR.step 3 (F' := (17, [(0, .ref 3)], [.ref 21, .ref 3])) (h' := (Gc L xs (A.1, 0) (B.1, 0) (fw d A.1 A.2 U) (fw d B.1 B.2 V) S d X)) (fun _ _ => rfl) ?_
  exact eR.callU (k' := 84) (as := [.ref 3, .ref 21]) (rest := []) (cx := 2) (fs := []) (h1 := (Gc L xs (A.1, 0) (B.1, 0) (fw d A.1 A.2 U) (fw d B.1 B.2 V) S d (X ++ [.inr (2, [])]))) rfl rfl rfl rfl (eg (Nat.le_of_ble_eq_true rfl) (show 22 ≤ lo by omega) (Nat.le_of_ble_eq_true rfl)) (c_file_21T2 (V := (fw d B.1 B.2 V)) (show 150 ≤ lo - 22 by omega) hR hd h0 hi2 h2 h3) (Gc_top ..) rfl rfl rfl
theorem c_linkT4 {cm sm fr lo L : Nat} {xs : Nat → Int32} {A B : gT} {U V : gU} {S : gS} {d : Nat → Nat} {X : mj_H} (hlo : 200 ≤ lo) (hR : gR cm sm L X) (hd : dk d) (ht : ∀ k, A.1 k < 65536) (hl : A.2 ≤ 40) (hn : ∀ k, U.2.2.2 k < 128) (ht2 : ∀ k, B.1 k < 65536) (hl2 : B.2 ≤ 40) (hn2 : ∀ k, V.2.2.2 k < 128) (h0 : d 11 ≠ 0) (h1 : (fw d A.1 A.2 U).1 ≠ 0) (h2 : (fw d B.1 B.2 V).2.2.1 ≠ 0) (h3 : d (32 + (16 * (fw d B.1 B.2 V).2.2.1)) ≠ 2) (h4 : ¬ d (32 + (16 * (fw d B.1 B.2 V).2.2.1) + 1) < 255) : eE mm_P cm sm (fr + 9) lo 82 [.ref 3] (Gc L xs A B U V S d X) (.inr (23 + X.length), (Gc L xs (A.1, 0) (B.1, 0) (fw d A.1 A.2 U) (fw d B.1 B.2 V) S d (X ++ [.inr (0, [])]))) := by
  refine eE.of ?_
  refine eR.step 1 (F' := (1, [(0, .ref 3)], [.ref 3])) (h' := (Gc L xs A B U V S d X)) (fun _ _ => rfl) ?_
  have hk := fw_pk (t := A.1) (l := A.2) hd hn
  have hp : (fw d A.1 A.2 U).1 < 2 ^ 20 := Nat.lt_trans hk.1 (by decide)
  have hi : (fw d A.1 A.2 U).2.2.1 < 2 ^ 20 := Nat.lt_trans hk.2.2.1 (by decide)
  have hs : (fw d A.1 A.2 U).2.1 < 2 ^ 20 := Nat.lt_trans hk.2.1 (by decide)
  refine eR.call (k' := 64) (as := [.ref 3]) (rest := []) (v := none) (h1 := (Gc L xs (A.1, 0) B (fw d A.1 A.2 U) V S d X)) rfl rfl rfl rfl (eg (Nat.le_of_ble_eq_true rfl) (show 20 ≤ lo by omega) (Nat.le_of_ble_eq_true rfl)) (c_takePath_15 (show 112 ≤ lo - 20 by omega) hd ht hl hn) ?_
  refine eR.step 1 (F' := (5, [(0, .ref 3)], [.ref 3])) (h' := (Gc L xs (A.1, 0) B (fw d A.1 A.2 U) V S d X)) (fun _ _ => rfl) ?_
  have hk2 := fw_pk (t := B.1) (l := B.2) hd hn2
  have hp2 : (fw d B.1 B.2 V).1 < 2 ^ 20 := Nat.lt_trans hk2.1 (by decide)
  have hi2 : (fw d B.1 B.2 V).2.2.1 < 2 ^ 20 := Nat.lt_trans hk2.2.2.1 (by decide)
  have hs2 : (fw d B.1 B.2 V).2.1 < 2 ^ 20 := Nat.lt_trans hk2.2.1 (by decide)
  refine eR.call (k' := 83) (as := [.ref 3]) (rest := []) (v := none) (h1 := (Gc L xs (A.1, 0) (B.1, 0) (fw d A.1 A.2 U) (fw d B.1 B.2 V) S d X)) rfl rfl rfl rfl (eg (Nat.le_of_ble_eq_true rfl) (show 20 ≤ lo by omega) (Nat.le_of_ble_eq_true rfl)) (c_takePath_17 (show 112 ≤ lo - 20 by omega) hd ht2 hl2 hn2) ?_
  refine eR.step 1 (F' := (9, [(0, .ref 3)], [.ref 3])) (h' := (Gc L xs (A.1, 0) (B.1, 0) (fw d A.1 A.2 U) (fw d B.1 B.2 V) S d X)) (fun _ _ => rfl) ?_
  refine eR.call (k' := 72) (as := [.ref 3]) (rest := []) (v := none) (h1 := (Gc L xs (A.1, 0) (B.1, 0) (fw d A.1 A.2 U) (fw d B.1 B.2 V) S d X)) rfl rfl rfl rfl (eg (Nat.le_of_ble_eq_true rfl) (show 20 ≤ lo by omega) (Nat.le_of_ble_eq_true rfl)) (c_reqNew (U := (fw d A.1 A.2 U)) (show 41 ≤ lo - 20 by omega) hd h0 h1 hp) ?_
  refine eR.step 3 (F' := (17, [(0, .ref 3)], [.ref 21, .ref 3])) (h' := (Gc L xs (A.1, 0) (B.1, 0) (fw d A.1 A.2 U) (fw d B.1 B.2 V) S d X)) (fun _ _ => rfl) ?_
  refine eR.call (k' := 84) (as := [.ref 3, .ref 21]) (rest := []) (v := some (.int (nI ((fw d B.1 B.2 V).2.2.1)))) (h1 := (Gc L xs (A.1, 0) (B.1, 0) (fw d A.1 A.2 U) (fw d B.1 B.2 V) S d X)) rfl rfl rfl rfl (eg (Nat.le_of_ble_eq_true rfl) (show 22 ≤ lo by omega) (Nat.le_of_ble_eq_true rfl)) (c_file_21 (V := (fw d B.1 B.2 V)) (show 62 ≤ lo - 22 by omega) hd h0 hi2 h2 h3) ?_
  refine eR.step 4 (F' := (26, [(0, .ref 3), (1, .int (nI ((fw d B.1 B.2 V).2.2.1)))], [.int (nI ((fw d B.1 B.2 V).2.2.1)), .ref 8])) (h' := (Gc L xs (A.1, 0) (B.1, 0) (fw d A.1 A.2 U) (fw d B.1 B.2 V) S d X)) (fun _ _ => rfl) ?_
  have h6 := hd.1 (32 + (16 * (fw d B.1 B.2 V).2.2.1) + 1)
  refine eR.call (k' := 27) (as := [.ref 8, .int (nI ((fw d B.1 B.2 V).2.2.1))]) (rest := []) (v := some (.int (nI (d (32 + (16 * (fw d B.1 B.2 V).2.2.1) + 1))))) (h1 := (Gc L xs (A.1, 0) (B.1, 0) (fw d A.1 A.2 U) (fw d B.1 B.2 V) S d X)) rfl rfl rfl rfl (eg (Nat.le_of_ble_eq_true rfl) (show 21 ≤ lo by omega) (Nat.le_of_ble_eq_true rfl)) (c_links (show 21 ≤ lo - 21 by omega) hd hi2) ?_
  refine eR.step 1 (F' := (32, [(0, .ref 3), (1, .int (nI ((fw d B.1 B.2 V).2.2.1)))], [.int (nI 255), .int (nI (d (32 + (16 * (fw d B.1 B.2 V).2.2.1) + 1)))])) (h' := (Gc L xs (A.1, 0) (B.1, 0) (fw d A.1 A.2 U) (fw d B.1 B.2 V) S d X)) (fun _ _ => rfl) ?_
  refine eR.icmp rfl false ((nc_lt (by omega) (by omega)).trans (decide_eq_false (by omega))) ?_
  exact thrH (cx := 0) rfl rfl rfl rfl rfl rfl rfl (by omega) (by omega) hR
theorem c_linkT5 {cm sm fr lo L : Nat} {xs : Nat → Int32} {A B : gT} {U V : gU} {S : gS} {d : Nat → Nat} {X : mj_H} (hlo : 200 ≤ lo) (hR : gR cm sm L X) (hd : dk d) (ht : ∀ k, A.1 k < 65536) (hl : A.2 ≤ 40) (hn : ∀ k, U.2.2.2 k < 128) (ht2 : ∀ k, B.1 k < 65536) (hl2 : B.2 ≤ 40) (hn2 : ∀ k, V.2.2.2 k < 128) (h0 : d 11 ≠ 0) (h1 : (fw d A.1 A.2 U).1 ≠ 0) (h2 : (fw d B.1 B.2 V).2.2.1 ≠ 0) (h3 : d (32 + (16 * (fw d B.1 B.2 V).2.2.1)) ≠ 2) (h4 : d (32 + (16 * (fw d B.1 B.2 V).2.2.1) + 1) < 255) (h5 : (fw d A.1 A.2 U).2.2.1 ≠ 0) : eE mm_P cm sm (fr + 9) lo 82 [.ref 3] (Gc L xs A B U V S d X) (.inr (23 + X.length), (Gc L xs (A.1, 0) (B.1, 0) (fw d A.1 A.2 U) (fw d B.1 B.2 V) S d (X ++ [.inr (0, [])]))) := by
  refine eE.of ?_
  refine eR.step 1 (F' := (1, [(0, .ref 3)], [.ref 3])) (h' := (Gc L xs A B U V S d X)) (fun _ _ => rfl) ?_
  have hk := fw_pk (t := A.1) (l := A.2) hd hn
  have hp : (fw d A.1 A.2 U).1 < 2 ^ 20 := Nat.lt_trans hk.1 (by decide)
  have hi : (fw d A.1 A.2 U).2.2.1 < 2 ^ 20 := Nat.lt_trans hk.2.2.1 (by decide)
  have hs : (fw d A.1 A.2 U).2.1 < 2 ^ 20 := Nat.lt_trans hk.2.1 (by decide)
  refine eR.call (k' := 64) (as := [.ref 3]) (rest := []) (v := none) (h1 := (Gc L xs (A.1, 0) B (fw d A.1 A.2 U) V S d X)) rfl rfl rfl rfl (eg (Nat.le_of_ble_eq_true rfl) (show 20 ≤ lo by omega) (Nat.le_of_ble_eq_true rfl)) (c_takePath_15 (show 112 ≤ lo - 20 by omega) hd ht hl hn) ?_
  refine eR.step 1 (F' := (5, [(0, .ref 3)], [.ref 3])) (h' := (Gc L xs (A.1, 0) B (fw d A.1 A.2 U) V S d X)) (fun _ _ => rfl) ?_
  have hk2 := fw_pk (t := B.1) (l := B.2) hd hn2
  have hp2 : (fw d B.1 B.2 V).1 < 2 ^ 20 := Nat.lt_trans hk2.1 (by decide)
  have hi2 : (fw d B.1 B.2 V).2.2.1 < 2 ^ 20 := Nat.lt_trans hk2.2.2.1 (by decide)
  have hs2 : (fw d B.1 B.2 V).2.1 < 2 ^ 20 := Nat.lt_trans hk2.2.1 (by decide)
  refine eR.call (k' := 83) (as := [.ref 3]) (rest := []) (v := none) (h1 := (Gc L xs (A.1, 0) (B.1, 0) (fw d A.1 A.2 U) (fw d B.1 B.2 V) S d X)) rfl rfl rfl rfl (eg (Nat.le_of_ble_eq_true rfl) (show 20 ≤ lo by omega) (Nat.le_of_ble_eq_true rfl)) (c_takePath_17 (show 112 ≤ lo - 20 by omega) hd ht2 hl2 hn2) ?_
  refine eR.step 1 (F' := (9, [(0, .ref 3)], [.ref 3])) (h' := (Gc L xs (A.1, 0) (B.1, 0) (fw d A.1 A.2 U) (fw d B.1 B.2 V) S d X)) (fun _ _ => rfl) ?_
  refine eR.call (k' := 72) (as := [.ref 3]) (rest := []) (v := none) (h1 := (Gc L xs (A.1, 0) (B.1, 0) (fw d A.1 A.2 U) (fw d B.1 B.2 V) S d X)) rfl rfl rfl rfl (eg (Nat.le_of_ble_eq_true rfl) (show 20 ≤ lo by omega) (Nat.le_of_ble_eq_true rfl)) (c_reqNew (U := (fw d A.1 A.2 U)) (show 41 ≤ lo - 20 by omega) hd h0 h1 hp) ?_
  refine eR.step 3 (F' := (17, [(0, .ref 3)], [.ref 21, .ref 3])) (h' := (Gc L xs (A.1, 0) (B.1, 0) (fw d A.1 A.2 U) (fw d B.1 B.2 V) S d X)) (fun _ _ => rfl) ?_
  refine eR.call (k' := 84) (as := [.ref 3, .ref 21]) (rest := []) (v := some (.int (nI ((fw d B.1 B.2 V).2.2.1)))) (h1 := (Gc L xs (A.1, 0) (B.1, 0) (fw d A.1 A.2 U) (fw d B.1 B.2 V) S d X)) rfl rfl rfl rfl (eg (Nat.le_of_ble_eq_true rfl) (show 22 ≤ lo by omega) (Nat.le_of_ble_eq_true rfl)) (c_file_21 (V := (fw d B.1 B.2 V)) (show 62 ≤ lo - 22 by omega) hd h0 hi2 h2 h3) ?_
  refine eR.step 4 (F' := (26, [(0, .ref 3), (1, .int (nI ((fw d B.1 B.2 V).2.2.1)))], [.int (nI ((fw d B.1 B.2 V).2.2.1)), .ref 8])) (h' := (Gc L xs (A.1, 0) (B.1, 0) (fw d A.1 A.2 U) (fw d B.1 B.2 V) S d X)) (fun _ _ => rfl) ?_
  have h6 := hd.1 (32 + (16 * (fw d B.1 B.2 V).2.2.1) + 1)
  refine eR.call (k' := 27) (as := [.ref 8, .int (nI ((fw d B.1 B.2 V).2.2.1))]) (rest := []) (v := some (.int (nI (d (32 + (16 * (fw d B.1 B.2 V).2.2.1) + 1))))) (h1 := (Gc L xs (A.1, 0) (B.1, 0) (fw d A.1 A.2 U) (fw d B.1 B.2 V) S d X)) rfl rfl rfl rfl (eg (Nat.le_of_ble_eq_true rfl) (show 21 ≤ lo by omega) (Nat.le_of_ble_eq_true rfl)) (c_links (show 21 ≤ lo - 21 by omega) hd hi2) ?_
  refine eR.step 1 (F' := (32, [(0, .ref 3), (1, .int (nI ((fw d B.1 B.2 V).2.2.1)))], [.int (nI 255), .int (nI (d (32 + (16 * (fw d B.1 B.2 V).2.2.1) + 1)))])) (h' := (Gc L xs (A.1, 0) (B.1, 0) (fw d A.1 A.2 U) (fw d B.1 B.2 V) S d X)) (fun _ _ => rfl) ?_
  refine eR.icmp rfl true ((nc_lt (by omega) (by omega)).trans (decide_eq_true (by omega))) ?_
  refine eR.step 2 (F' := (47, [(0, .ref 3), (1, .int (nI ((fw d B.1 B.2 V).2.2.1)))], [.int (nI 0), .ref 3])) (h' := (Gc L xs (A.1, 0) (B.1, 0) (fw d A.1 A.2 U) (fw d B.1 B.2 V) S d X)) (fun _ _ => rfl) ?_
  exact eR.callU (k' := 75) (as := [.ref 3, .int (nI 0)]) (rest := []) (cx := 0) (fs := []) (h1 := (Gc L xs (A.1, 0) (B.1, 0) (fw d A.1 A.2 U) (fw d B.1 B.2 V) S d (X ++ [.inr (0, [])]))) rfl rfl rfl rfl (eg (Nat.le_of_ble_eq_true rfl) (show 21 ≤ lo by omega) (Nat.le_of_ble_eq_true rfl)) (c_reqSlotT1 (U := (fw d A.1 A.2 U)) (show 115 ≤ lo - 21 by omega) hR h5 hi) (Gc_top ..) rfl rfl rfl
theorem c_linkT6 {cm sm fr lo L : Nat} {xs : Nat → Int32} {A B : gT} {U V : gU} {S : gS} {d : Nat → Nat} {X : mj_H} (hlo : 200 ≤ lo) (hR : gR cm sm L X) (hd : dk d) (ht : ∀ k, A.1 k < 65536) (hl : A.2 ≤ 40) (hn : ∀ k, U.2.2.2 k < 128) (ht2 : ∀ k, B.1 k < 65536) (hl2 : B.2 ≤ 40) (hn2 : ∀ k, V.2.2.2 k < 128) (h0 : d 11 ≠ 0) (h1 : (fw d A.1 A.2 U).1 ≠ 0) (h2 : (fw d B.1 B.2 V).2.2.1 ≠ 0) (h3 : d (32 + (16 * (fw d B.1 B.2 V).2.2.1)) ≠ 2) (h4 : d (32 + (16 * (fw d B.1 B.2 V).2.2.1) + 1) < 255) (h5 : (fw d A.1 A.2 U).2.2.1 = 0) (h7 : ¬ hr d (fw d A.1 A.2 U).1 0 = true) : eE mm_P cm sm (fr + 9) lo 82 [.ref 3] (Gc L xs A B U V S d X) (.inr (23 + X.length), (Gc L xs (A.1, 0) (B.1, 0) (fw d A.1 A.2 U) (fw d B.1 B.2 V) S d (X ++ [.inr (0, [])]))) := by
  refine eE.of ?_
  refine eR.step 1 (F' := (1, [(0, .ref 3)], [.ref 3])) (h' := (Gc L xs A B U V S d X)) (fun _ _ => rfl) ?_
  have hk := fw_pk (t := A.1) (l := A.2) hd hn
  have hp : (fw d A.1 A.2 U).1 < 2 ^ 20 := Nat.lt_trans hk.1 (by decide)
  have hi : (fw d A.1 A.2 U).2.2.1 < 2 ^ 20 := Nat.lt_trans hk.2.2.1 (by decide)
  have hs : (fw d A.1 A.2 U).2.1 < 2 ^ 20 := Nat.lt_trans hk.2.1 (by decide)
  refine eR.call (k' := 64) (as := [.ref 3]) (rest := []) (v := none) (h1 := (Gc L xs (A.1, 0) B (fw d A.1 A.2 U) V S d X)) rfl rfl rfl rfl (eg (Nat.le_of_ble_eq_true rfl) (show 20 ≤ lo by omega) (Nat.le_of_ble_eq_true rfl)) (c_takePath_15 (show 112 ≤ lo - 20 by omega) hd ht hl hn) ?_
  refine eR.step 1 (F' := (5, [(0, .ref 3)], [.ref 3])) (h' := (Gc L xs (A.1, 0) B (fw d A.1 A.2 U) V S d X)) (fun _ _ => rfl) ?_
  have hk2 := fw_pk (t := B.1) (l := B.2) hd hn2
  have hp2 : (fw d B.1 B.2 V).1 < 2 ^ 20 := Nat.lt_trans hk2.1 (by decide)
  have hi2 : (fw d B.1 B.2 V).2.2.1 < 2 ^ 20 := Nat.lt_trans hk2.2.2.1 (by decide)
  have hs2 : (fw d B.1 B.2 V).2.1 < 2 ^ 20 := Nat.lt_trans hk2.2.1 (by decide)
  refine eR.call (k' := 83) (as := [.ref 3]) (rest := []) (v := none) (h1 := (Gc L xs (A.1, 0) (B.1, 0) (fw d A.1 A.2 U) (fw d B.1 B.2 V) S d X)) rfl rfl rfl rfl (eg (Nat.le_of_ble_eq_true rfl) (show 20 ≤ lo by omega) (Nat.le_of_ble_eq_true rfl)) (c_takePath_17 (show 112 ≤ lo - 20 by omega) hd ht2 hl2 hn2) ?_
  refine eR.step 1 (F' := (9, [(0, .ref 3)], [.ref 3])) (h' := (Gc L xs (A.1, 0) (B.1, 0) (fw d A.1 A.2 U) (fw d B.1 B.2 V) S d X)) (fun _ _ => rfl) ?_
  refine eR.call (k' := 72) (as := [.ref 3]) (rest := []) (v := none) (h1 := (Gc L xs (A.1, 0) (B.1, 0) (fw d A.1 A.2 U) (fw d B.1 B.2 V) S d X)) rfl rfl rfl rfl (eg (Nat.le_of_ble_eq_true rfl) (show 20 ≤ lo by omega) (Nat.le_of_ble_eq_true rfl)) (c_reqNew (U := (fw d A.1 A.2 U)) (show 41 ≤ lo - 20 by omega) hd h0 h1 hp) ?_
  refine eR.step 3 (F' := (17, [(0, .ref 3)], [.ref 21, .ref 3])) (h' := (Gc L xs (A.1, 0) (B.1, 0) (fw d A.1 A.2 U) (fw d B.1 B.2 V) S d X)) (fun _ _ => rfl) ?_
  refine eR.call (k' := 84) (as := [.ref 3, .ref 21]) (rest := []) (v := some (.int (nI ((fw d B.1 B.2 V).2.2.1)))) (h1 := (Gc L xs (A.1, 0) (B.1, 0) (fw d A.1 A.2 U) (fw d B.1 B.2 V) S d X)) rfl rfl rfl rfl (eg (Nat.le_of_ble_eq_true rfl) (show 22 ≤ lo by omega) (Nat.le_of_ble_eq_true rfl)) (c_file_21 (V := (fw d B.1 B.2 V)) (show 62 ≤ lo - 22 by omega) hd h0 hi2 h2 h3) ?_
  refine eR.step 4 (F' := (26, [(0, .ref 3), (1, .int (nI ((fw d B.1 B.2 V).2.2.1)))], [.int (nI ((fw d B.1 B.2 V).2.2.1)), .ref 8])) (h' := (Gc L xs (A.1, 0) (B.1, 0) (fw d A.1 A.2 U) (fw d B.1 B.2 V) S d X)) (fun _ _ => rfl) ?_
  have h6 := hd.1 (32 + (16 * (fw d B.1 B.2 V).2.2.1) + 1)
  refine eR.call (k' := 27) (as := [.ref 8, .int (nI ((fw d B.1 B.2 V).2.2.1))]) (rest := []) (v := some (.int (nI (d (32 + (16 * (fw d B.1 B.2 V).2.2.1) + 1))))) (h1 := (Gc L xs (A.1, 0) (B.1, 0) (fw d A.1 A.2 U) (fw d B.1 B.2 V) S d X)) rfl rfl rfl rfl (eg (Nat.le_of_ble_eq_true rfl) (show 21 ≤ lo by omega) (Nat.le_of_ble_eq_true rfl)) (c_links (show 21 ≤ lo - 21 by omega) hd hi2) ?_
  refine eR.step 1 (F' := (32, [(0, .ref 3), (1, .int (nI ((fw d B.1 B.2 V).2.2.1)))], [.int (nI 255), .int (nI (d (32 + (16 * (fw d B.1 B.2 V).2.2.1) + 1)))])) (h' := (Gc L xs (A.1, 0) (B.1, 0) (fw d A.1 A.2 U) (fw d B.1 B.2 V) S d X)) (fun _ _ => rfl) ?_
  refine eR.icmp rfl true ((nc_lt (by omega) (by omega)).trans (decide_eq_true (by omega))) ?_
  refine eR.step 2 (F' := (47, [(0, .ref 3), (1, .int (nI ((fw d B.1 B.2 V).2.2.1)))], [.int (nI 0), .ref 3])) (h' := (Gc L xs (A.1, 0) (B.1, 0) (fw d A.1 A.2 U) (fw d B.1 B.2 V) S d X)) (fun _ _ => rfl) ?_
  exact eR.callU (k' := 75) (as := [.ref 3, .int (nI 0)]) (rest := []) (cx := 0) (fs := []) (h1 := (Gc L xs (A.1, 0) (B.1, 0) (fw d A.1 A.2 U) (fw d B.1 B.2 V) S d (X ++ [.inr (0, [])]))) rfl rfl rfl rfl (eg (Nat.le_of_ble_eq_true rfl) (show 21 ≤ lo by omega) (Nat.le_of_ble_eq_true rfl)) (c_reqSlotT2 (U := (fw d A.1 A.2 U)) (show 115 ≤ lo - 21 by omega) hR hd hp (by decide) h5 h7) (Gc_top ..) rfl rfl rfl
theorem c_link {cm sm fr lo L : Nat} {xs : Nat → Int32} {A B : gT} {U V : gU} {S : gS} {d : Nat → Nat} {X : mj_H} (hlo : 136 ≤ lo) (hd : dk d) (ht : ∀ k, A.1 k < 65536) (hl : A.2 ≤ 40) (hn : ∀ k, U.2.2.2 k < 128) (ht2 : ∀ k, B.1 k < 65536) (hl2 : B.2 ≤ 40) (hn2 : ∀ k, V.2.2.2 k < 128) (h0 : d 11 ≠ 0) (h1 : (fw d A.1 A.2 U).1 ≠ 0) (h2 : (fw d B.1 B.2 V).2.2.1 ≠ 0) (h3 : d (32 + (16 * (fw d B.1 B.2 V).2.2.1)) ≠ 2) (h4 : d (32 + (16 * (fw d B.1 B.2 V).2.2.1) + 1) < 255) (h5 : (fw d A.1 A.2 U).2.2.1 = 0) (h7 : hr d (fw d A.1 A.2 U).1 0 = true) : eE mm_P cm sm (fr + 8) lo 82 [.ref 3] (Gc L xs A B U V S d X) (.inl (some (.int (nI ((ad d (fw d A.1 A.2 U).1 (fw d B.1 B.2 V).2.2.1 (fw d A.1 A.2 U).2.2.2) (32 + (16 * (fw d B.1 B.2 V).2.2.1) + 1))))), (Gc L xs (A.1, 0) (B.1, 0) (fw d A.1 A.2 U) (fw d B.1 B.2 V) S (ad d (fw d A.1 A.2 U).1 (fw d B.1 B.2 V).2.2.1 (fw d A.1 A.2 U).2.2.2) X)) := by
  refine eE.of ?_
  refine eR.step 1 (F' := (1, [(0, .ref 3)], [.ref 3])) (h' := (Gc L xs A B U V S d X)) (fun _ _ => rfl) ?_
  have hk := fw_pk (t := A.1) (l := A.2) hd hn
  have hp : (fw d A.1 A.2 U).1 < 2 ^ 20 := Nat.lt_trans hk.1 (by decide)
  have hi : (fw d A.1 A.2 U).2.2.1 < 2 ^ 20 := Nat.lt_trans hk.2.2.1 (by decide)
  have hs : (fw d A.1 A.2 U).2.1 < 2 ^ 20 := Nat.lt_trans hk.2.1 (by decide)
  refine eR.call (k' := 64) (as := [.ref 3]) (rest := []) (v := none) (h1 := (Gc L xs (A.1, 0) B (fw d A.1 A.2 U) V S d X)) rfl rfl rfl rfl (eg (Nat.le_of_ble_eq_true rfl) (show 20 ≤ lo by omega) (Nat.le_of_ble_eq_true rfl)) (c_takePath_15 (show 112 ≤ lo - 20 by omega) hd ht hl hn) ?_
  refine eR.step 1 (F' := (5, [(0, .ref 3)], [.ref 3])) (h' := (Gc L xs (A.1, 0) B (fw d A.1 A.2 U) V S d X)) (fun _ _ => rfl) ?_
  have hk2 := fw_pk (t := B.1) (l := B.2) hd hn2
  have hp2 : (fw d B.1 B.2 V).1 < 2 ^ 20 := Nat.lt_trans hk2.1 (by decide)
  have hi2 : (fw d B.1 B.2 V).2.2.1 < 2 ^ 20 := Nat.lt_trans hk2.2.2.1 (by decide)
  have hs2 : (fw d B.1 B.2 V).2.1 < 2 ^ 20 := Nat.lt_trans hk2.2.1 (by decide)
  refine eR.call (k' := 83) (as := [.ref 3]) (rest := []) (v := none) (h1 := (Gc L xs (A.1, 0) (B.1, 0) (fw d A.1 A.2 U) (fw d B.1 B.2 V) S d X)) rfl rfl rfl rfl (eg (Nat.le_of_ble_eq_true rfl) (show 20 ≤ lo by omega) (Nat.le_of_ble_eq_true rfl)) (c_takePath_17 (show 112 ≤ lo - 20 by omega) hd ht2 hl2 hn2) ?_
  refine eR.step 1 (F' := (9, [(0, .ref 3)], [.ref 3])) (h' := (Gc L xs (A.1, 0) (B.1, 0) (fw d A.1 A.2 U) (fw d B.1 B.2 V) S d X)) (fun _ _ => rfl) ?_
  refine eR.call (k' := 72) (as := [.ref 3]) (rest := []) (v := none) (h1 := (Gc L xs (A.1, 0) (B.1, 0) (fw d A.1 A.2 U) (fw d B.1 B.2 V) S d X)) rfl rfl rfl rfl (eg (Nat.le_of_ble_eq_true rfl) (show 20 ≤ lo by omega) (Nat.le_of_ble_eq_true rfl)) (c_reqNew (U := (fw d A.1 A.2 U)) (show 41 ≤ lo - 20 by omega) hd h0 h1 hp) ?_
  refine eR.step 3 (F' := (17, [(0, .ref 3)], [.ref 21, .ref 3])) (h' := (Gc L xs (A.1, 0) (B.1, 0) (fw d A.1 A.2 U) (fw d B.1 B.2 V) S d X)) (fun _ _ => rfl) ?_
  refine eR.call (k' := 84) (as := [.ref 3, .ref 21]) (rest := []) (v := some (.int (nI ((fw d B.1 B.2 V).2.2.1)))) (h1 := (Gc L xs (A.1, 0) (B.1, 0) (fw d A.1 A.2 U) (fw d B.1 B.2 V) S d X)) rfl rfl rfl rfl (eg (Nat.le_of_ble_eq_true rfl) (show 22 ≤ lo by omega) (Nat.le_of_ble_eq_true rfl)) (c_file_21 (V := (fw d B.1 B.2 V)) (show 62 ≤ lo - 22 by omega) hd h0 hi2 h2 h3) ?_
  refine eR.step 4 (F' := (26, [(0, .ref 3), (1, .int (nI ((fw d B.1 B.2 V).2.2.1)))], [.int (nI ((fw d B.1 B.2 V).2.2.1)), .ref 8])) (h' := (Gc L xs (A.1, 0) (B.1, 0) (fw d A.1 A.2 U) (fw d B.1 B.2 V) S d X)) (fun _ _ => rfl) ?_
  have h6 := hd.1 (32 + (16 * (fw d B.1 B.2 V).2.2.1) + 1)
  refine eR.call (k' := 27) (as := [.ref 8, .int (nI ((fw d B.1 B.2 V).2.2.1))]) (rest := []) (v := some (.int (nI (d (32 + (16 * (fw d B.1 B.2 V).2.2.1) + 1))))) (h1 := (Gc L xs (A.1, 0) (B.1, 0) (fw d A.1 A.2 U) (fw d B.1 B.2 V) S d X)) rfl rfl rfl rfl (eg (Nat.le_of_ble_eq_true rfl) (show 21 ≤ lo by omega) (Nat.le_of_ble_eq_true rfl)) (c_links (show 21 ≤ lo - 21 by omega) hd hi2) ?_
  refine eR.step 1 (F' := (32, [(0, .ref 3), (1, .int (nI ((fw d B.1 B.2 V).2.2.1)))], [.int (nI 255), .int (nI (d (32 + (16 * (fw d B.1 B.2 V).2.2.1) + 1)))])) (h' := (Gc L xs (A.1, 0) (B.1, 0) (fw d A.1 A.2 U) (fw d B.1 B.2 V) S d X)) (fun _ _ => rfl) ?_
  refine eR.icmp rfl true ((nc_lt (by omega) (by omega)).trans (decide_eq_true (by omega))) ?_
  refine eR.step 2 (F' := (47, [(0, .ref 3), (1, .int (nI ((fw d B.1 B.2 V).2.2.1)))], [.int (nI 0), .ref 3])) (h' := (Gc L xs (A.1, 0) (B.1, 0) (fw d A.1 A.2 U) (fw d B.1 B.2 V) S d X)) (fun _ _ => rfl) ?_
  refine eR.call (k' := 75) (as := [.ref 3, .int (nI 0)]) (rest := []) (v := none) (h1 := (Gc L xs (A.1, 0) (B.1, 0) (fw d A.1 A.2 U) (fw d B.1 B.2 V) S d X)) rfl rfl rfl rfl (eg (Nat.le_of_ble_eq_true rfl) (show 21 ≤ lo by omega) (Nat.le_of_ble_eq_true rfl)) (c_reqSlot (U := (fw d A.1 A.2 U)) (show 115 ≤ lo - 21 by omega) hd hp (by decide) h5 h7) ?_
  refine eR.step 9 (F' := (69, [(0, .ref 3), (1, .int (nI ((fw d B.1 B.2 V).2.2.1)))], [.ref 20, .int (nI ((fw d B.1 B.2 V).2.2.1)), .int (nI ((fw d A.1 A.2 U).1)), .ref 9])) (h' := (Gc L xs (A.1, 0) (B.1, 0) (fw d A.1 A.2 U) (fw d B.1 B.2 V) S d X)) (fun _ _ => rfl) ?_
  refine eR.call (k' := 80) (as := [.ref 9, .int (nI ((fw d A.1 A.2 U).1)), .int (nI ((fw d B.1 B.2 V).2.2.1)), .ref 20]) (rest := []) (v := none) (h1 := (Gc L xs (A.1, 0) (B.1, 0) (fw d A.1 A.2 U) (fw d B.1 B.2 V) S (ad d (fw d A.1 A.2 U).1 (fw d B.1 B.2 V).2.2.1 (fw d A.1 A.2 U).2.2.2) X)) rfl rfl rfl rfl (eg (Nat.le_of_ble_eq_true rfl) (show 24 ≤ lo by omega) (Nat.le_of_ble_eq_true rfl)) (c_add (U := (fw d A.1 A.2 U)) (show 92 ≤ lo - 24 by omega) hd hk.2.2.2 hp hi2) ?_
  refine eR.step 3 (F' := (77, [(0, .ref 3), (1, .int (nI ((fw d B.1 B.2 V).2.2.1)))], [.int (nI ((fw d B.1 B.2 V).2.2.1)), .ref 8])) (h' := (Gc L xs (A.1, 0) (B.1, 0) (fw d A.1 A.2 U) (fw d B.1 B.2 V) S (ad d (fw d A.1 A.2 U).1 (fw d B.1 B.2 V).2.2.1 (fw d A.1 A.2 U).2.2.2) X)) (fun _ _ => rfl) ?_
  refine eR.call (k' := 27) (as := [.ref 8, .int (nI ((fw d B.1 B.2 V).2.2.1))]) (rest := []) (v := some (.int (nI ((ad d (fw d A.1 A.2 U).1 (fw d B.1 B.2 V).2.2.1 (fw d A.1 A.2 U).2.2.2) (32 + (16 * (fw d B.1 B.2 V).2.2.1) + 1))))) (h1 := (Gc L xs (A.1, 0) (B.1, 0) (fw d A.1 A.2 U) (fw d B.1 B.2 V) S (ad d (fw d A.1 A.2 U).1 (fw d B.1 B.2 V).2.2.1 (fw d A.1 A.2 U).2.2.2) X)) rfl rfl rfl rfl (eg (Nat.le_of_ble_eq_true rfl) (show 21 ≤ lo by omega) (Nat.le_of_ble_eq_true rfl)) (c_links (show 21 ≤ lo - 21 by omega) (ad_dk hd _ _ _) hi2) ?_
  exact eR.ret rfl rfl rfl
theorem c_unlinkT0 {cm sm fr lo L : Nat} {xs : Nat → Int32} {A B : gT} {U V : gU} {S : gS} {d : Nat → Nat} {X : mj_H} (hlo : 200 ≤ lo) (hR : gR cm sm L X) (hd : dk d) (ht : ∀ k, A.1 k < 65536) (hl : A.2 ≤ 40) (hn : ∀ k, U.2.2.2 k < 128) (h0 : d 11 = 0) : eE mm_P cm sm (fr + 9) lo 86 [.ref 3] (Gc L xs A B U V S d X) (.inr (23 + X.length), (Gc L xs (A.1, 0) B (fw d A.1 A.2 U) V S d (X ++ [.inr (0, [])]))) := by
  refine eE.of ?_
  refine eR.step 1 (F' := (1, [(0, .ref 3)], [.ref 3])) (h' := (Gc L xs A B U V S d X)) (fun _ _ => rfl) ?_
  have hk := fw_pk (t := A.1) (l := A.2) hd hn
  have hp : (fw d A.1 A.2 U).1 < 2 ^ 20 := Nat.lt_trans hk.1 (by decide)
  have hi : (fw d A.1 A.2 U).2.2.1 < 2 ^ 20 := Nat.lt_trans hk.2.2.1 (by decide)
  have hs : (fw d A.1 A.2 U).2.1 < 2 ^ 20 := Nat.lt_trans hk.2.1 (by decide)
  refine eR.call (k' := 64) (as := [.ref 3]) (rest := []) (v := none) (h1 := (Gc L xs (A.1, 0) B (fw d A.1 A.2 U) V S d X)) rfl rfl rfl rfl (eg (Nat.le_of_ble_eq_true rfl) (show 20 ≤ lo by omega) (Nat.le_of_ble_eq_true rfl)) (c_takePath_15 (show 112 ≤ lo - 20 by omega) hd ht hl hn) ?_
  refine eR.step 3 (F' := (9, [(0, .ref 3)], [.ref 19, .ref 3])) (h' := (Gc L xs (A.1, 0) B (fw d A.1 A.2 U) V S d X)) (fun _ _ => rfl) ?_
  exact eR.callU (k' := 84) (as := [.ref 3, .ref 19]) (rest := []) (cx := 0) (fs := []) (h1 := (Gc L xs (A.1, 0) B (fw d A.1 A.2 U) V S d (X ++ [.inr (0, [])]))) rfl rfl rfl rfl (eg (Nat.le_of_ble_eq_true rfl) (show 22 ≤ lo by omega) (Nat.le_of_ble_eq_true rfl)) (c_file_19T0 (U := (fw d A.1 A.2 U)) (show 150 ≤ lo - 22 by omega) hR hd h0) (Gc_top ..) rfl rfl rfl
theorem c_unlinkT1 {cm sm fr lo L : Nat} {xs : Nat → Int32} {A B : gT} {U V : gU} {S : gS} {d : Nat → Nat} {X : mj_H} (hlo : 200 ≤ lo) (hR : gR cm sm L X) (hd : dk d) (ht : ∀ k, A.1 k < 65536) (hl : A.2 ≤ 40) (hn : ∀ k, U.2.2.2 k < 128) (h0 : d 11 ≠ 0) (h1 : (fw d A.1 A.2 U).2.2.1 = 0) : eE mm_P cm sm (fr + 9) lo 86 [.ref 3] (Gc L xs A B U V S d X) (.inr (23 + X.length), (Gc L xs (A.1, 0) B (fw d A.1 A.2 U) V S d (X ++ [.inr (1, [])]))) := by
  refine eE.of ?_
  refine eR.step 1 (F' := (1, [(0, .ref 3)], [.ref 3])) (h' := (Gc L xs A B U V S d X)) (fun _ _ => rfl) ?_
  have hk := fw_pk (t := A.1) (l := A.2) hd hn
  have hp : (fw d A.1 A.2 U).1 < 2 ^ 20 := Nat.lt_trans hk.1 (by decide)
  have hi : (fw d A.1 A.2 U).2.2.1 < 2 ^ 20 := Nat.lt_trans hk.2.2.1 (by decide)
  have hs : (fw d A.1 A.2 U).2.1 < 2 ^ 20 := Nat.lt_trans hk.2.1 (by decide)
  refine eR.call (k' := 64) (as := [.ref 3]) (rest := []) (v := none) (h1 := (Gc L xs (A.1, 0) B (fw d A.1 A.2 U) V S d X)) rfl rfl rfl rfl (eg (Nat.le_of_ble_eq_true rfl) (show 20 ≤ lo by omega) (Nat.le_of_ble_eq_true rfl)) (c_takePath_15 (show 112 ≤ lo - 20 by omega) hd ht hl hn) ?_
  refine eR.step 3 (F' := (9, [(0, .ref 3)], [.ref 19, .ref 3])) (h' := (Gc L xs (A.1, 0) B (fw d A.1 A.2 U) V S d X)) (fun _ _ => rfl) ?_
  exact eR.callU (k' := 84) (as := [.ref 3, .ref 19]) (rest := []) (cx := 1) (fs := []) (h1 := (Gc L xs (A.1, 0) B (fw d A.1 A.2 U) V S d (X ++ [.inr (1, [])]))) rfl rfl rfl rfl (eg (Nat.le_of_ble_eq_true rfl) (show 22 ≤ lo by omega) (Nat.le_of_ble_eq_true rfl)) (c_file_19T1 (U := (fw d A.1 A.2 U)) (show 150 ≤ lo - 22 by omega) hR hd h0 h1) (Gc_top ..) rfl rfl rfl
theorem c_unlinkT2 {cm sm fr lo L : Nat} {xs : Nat → Int32} {A B : gT} {U V : gU} {S : gS} {d : Nat → Nat} {X : mj_H} (hlo : 200 ≤ lo) (hR : gR cm sm L X) (hd : dk d) (ht : ∀ k, A.1 k < 65536) (hl : A.2 ≤ 40) (hn : ∀ k, U.2.2.2 k < 128) (h0 : d 11 ≠ 0) (h1 : (fw d A.1 A.2 U).2.2.1 ≠ 0) (h2 : d (32 + (16 * (fw d A.1 A.2 U).2.2.1)) = 2) : eE mm_P cm sm (fr + 9) lo 86 [.ref 3] (Gc L xs A B U V S d X) (.inr (23 + X.length), (Gc L xs (A.1, 0) B (fw d A.1 A.2 U) V S d (X ++ [.inr (2, [])]))) := by
  refine eE.of ?_
  refine eR.step 1 (F' := (1, [(0, .ref 3)], [.ref 3])) (h' := (Gc L xs A B U V S d X)) (fun _ _ => rfl) ?_
  have hk := fw_pk (t := A.1) (l := A.2) hd hn
  have hp : (fw d A.1 A.2 U).1 < 2 ^ 20 := Nat.lt_trans hk.1 (by decide)
  have hi : (fw d A.1 A.2 U).2.2.1 < 2 ^ 20 := Nat.lt_trans hk.2.2.1 (by decide)
  have hs : (fw d A.1 A.2 U).2.1 < 2 ^ 20 := Nat.lt_trans hk.2.1 (by decide)
  refine eR.call (k' := 64) (as := [.ref 3]) (rest := []) (v := none) (h1 := (Gc L xs (A.1, 0) B (fw d A.1 A.2 U) V S d X)) rfl rfl rfl rfl (eg (Nat.le_of_ble_eq_true rfl) (show 20 ≤ lo by omega) (Nat.le_of_ble_eq_true rfl)) (c_takePath_15 (show 112 ≤ lo - 20 by omega) hd ht hl hn) ?_
  refine eR.step 3 (F' := (9, [(0, .ref 3)], [.ref 19, .ref 3])) (h' := (Gc L xs (A.1, 0) B (fw d A.1 A.2 U) V S d X)) (fun _ _ => rfl) ?_
  exact eR.callU (k' := 84) (as := [.ref 3, .ref 19]) (rest := []) (cx := 2) (fs := []) (h1 := (Gc L xs (A.1, 0) B (fw d A.1 A.2 U) V S d (X ++ [.inr (2, [])]))) rfl rfl rfl rfl (eg (Nat.le_of_ble_eq_true rfl) (show 22 ≤ lo by omega) (Nat.le_of_ble_eq_true rfl)) (c_file_19T2 (U := (fw d A.1 A.2 U)) (show 150 ≤ lo - 22 by omega) hR hd h0 hi h1 h2) (Gc_top ..) rfl rfl rfl
theorem c_unlink1 {cm sm fr lo L : Nat} {xs : Nat → Int32} {A B : gT} {U V : gU} {S : gS} {d : Nat → Nat} {X : mj_H} (hlo : 133 ≤ lo) (hd : dk d) (ht : ∀ k, A.1 k < 65536) (hl : A.2 ≤ 40) (hn : ∀ k, U.2.2.2 k < 128) (h0 : d 11 ≠ 0) (h1 : (fw d A.1 A.2 U).2.2.1 ≠ 0) (h2 : d (32 + (16 * (fw d A.1 A.2 U).2.2.1)) ≠ 2) (h3 : (fr_ d (fw d A.1 A.2 U).1 (fw d A.1 A.2 U).2.1) (32 + (16 * (fw d A.1 A.2 U).2.2.1) + 1) ≠ 0) : eE mm_P cm sm (fr + 8) lo 86 [.ref 3] (Gc L xs A B U V S d X) (.inl (some (.int (nI ((fr_ d (fw d A.1 A.2 U).1 (fw d A.1 A.2 U).2.1) (32 + (16 * (fw d A.1 A.2 U).2.2.1) + 1))))), (Gc L xs (A.1, 0) B (fw d A.1 A.2 U) V S (fr_ d (fw d A.1 A.2 U).1 (fw d A.1 A.2 U).2.1) X)) := by
  refine eE.of ?_
  refine eR.step 1 (F' := (1, [(0, .ref 3)], [.ref 3])) (h' := (Gc L xs A B U V S d X)) (fun _ _ => rfl) ?_
  have hk := fw_pk (t := A.1) (l := A.2) hd hn
  have hp : (fw d A.1 A.2 U).1 < 2 ^ 20 := Nat.lt_trans hk.1 (by decide)
  have hi : (fw d A.1 A.2 U).2.2.1 < 2 ^ 20 := Nat.lt_trans hk.2.2.1 (by decide)
  have hs : (fw d A.1 A.2 U).2.1 < 2 ^ 20 := Nat.lt_trans hk.2.1 (by decide)
  refine eR.call (k' := 64) (as := [.ref 3]) (rest := []) (v := none) (h1 := (Gc L xs (A.1, 0) B (fw d A.1 A.2 U) V S d X)) rfl rfl rfl rfl (eg (Nat.le_of_ble_eq_true rfl) (show 20 ≤ lo by omega) (Nat.le_of_ble_eq_true rfl)) (c_takePath_15 (show 112 ≤ lo - 20 by omega) hd ht hl hn) ?_
  refine eR.step 3 (F' := (9, [(0, .ref 3)], [.ref 19, .ref 3])) (h' := (Gc L xs (A.1, 0) B (fw d A.1 A.2 U) V S d X)) (fun _ _ => rfl) ?_
  refine eR.call (k' := 84) (as := [.ref 3, .ref 19]) (rest := []) (v := some (.int (nI ((fw d A.1 A.2 U).2.2.1)))) (h1 := (Gc L xs (A.1, 0) B (fw d A.1 A.2 U) V S d X)) rfl rfl rfl rfl (eg (Nat.le_of_ble_eq_true rfl) (show 22 ≤ lo by omega) (Nat.le_of_ble_eq_true rfl)) (c_file_19 (U := (fw d A.1 A.2 U)) (show 62 ≤ lo - 22 by omega) hd h0 hi h1 h2) ?_
  refine eR.step 9 (F' := (31, [(0, .ref 3), (1, .int (nI ((fw d A.1 A.2 U).2.2.1)))], [.int (nI ((fw d A.1 A.2 U).2.1)), .int (nI ((fw d A.1 A.2 U).1)), .ref 9])) (h' := (Gc L xs (A.1, 0) B (fw d A.1 A.2 U) V S d X)) (fun _ _ => rfl) ?_
  refine eR.call (k' := 87) (as := [.ref 9, .int (nI ((fw d A.1 A.2 U).1)), .int (nI ((fw d A.1 A.2 U).2.1))]) (rest := []) (v := none) (h1 := (Gc L xs (A.1, 0) B (fw d A.1 A.2 U) V S (fr_ d (fw d A.1 A.2 U).1 (fw d A.1 A.2 U).2.1) X)) rfl rfl rfl rfl (eg (Nat.le_of_ble_eq_true rfl) (show 23 ≤ lo by omega) (Nat.le_of_ble_eq_true rfl)) (c_free (show 66 ≤ lo - 23 by omega) hd hp hs) ?_
  refine eR.step 3 (F' := (39, [(0, .ref 3), (1, .int (nI ((fw d A.1 A.2 U).2.2.1)))], [.int (nI ((fw d A.1 A.2 U).2.2.1)), .ref 8])) (h' := (Gc L xs (A.1, 0) B (fw d A.1 A.2 U) V S (fr_ d (fw d A.1 A.2 U).1 (fw d A.1 A.2 U).2.1) X)) (fun _ _ => rfl) ?_
  have h6 := (fr_dk hd (fw d A.1 A.2 U).1 (fw d A.1 A.2 U).2.1).1 (32 + (16 * (fw d A.1 A.2 U).2.2.1) + 1)
  refine eR.call (k' := 27) (as := [.ref 8, .int (nI ((fw d A.1 A.2 U).2.2.1))]) (rest := []) (v := some (.int (nI ((fr_ d (fw d A.1 A.2 U).1 (fw d A.1 A.2 U).2.1) (32 + (16 * (fw d A.1 A.2 U).2.2.1) + 1))))) (h1 := (Gc L xs (A.1, 0) B (fw d A.1 A.2 U) V S (fr_ d (fw d A.1 A.2 U).1 (fw d A.1 A.2 U).2.1) X)) rfl rfl rfl rfl (eg (Nat.le_of_ble_eq_true rfl) (show 21 ≤ lo by omega) (Nat.le_of_ble_eq_true rfl)) (c_links (show 21 ≤ lo - 21 by omega) (fr_dk hd _ _) hi) ?_
  refine eR.step 2 (F' := (44, [(0, .ref 3), (1, .int (nI ((fw d A.1 A.2 U).2.2.1))), (2, .int (nI ((fr_ d (fw d A.1 A.2 U).1 (fw d A.1 A.2 U).2.1) (32 + (16 * (fw d A.1 A.2 U).2.2.1) + 1))))], [.int (nI ((fr_ d (fw d A.1 A.2 U).1 (fw d A.1 A.2 U).2.1) (32 + (16 * (fw d A.1 A.2 U).2.2.1) + 1)))])) (h' := (Gc L xs (A.1, 0) B (fw d A.1 A.2 U) V S (fr_ d (fw d A.1 A.2 U).1 (fw d A.1 A.2 U).2.1) X)) (fun _ _ => rfl) ?_
  refine eR.ifc rfl true ((nc_ne (b := 0) (by omega) (by decide)).trans (decide_eq_true (by omega))) ?_
  refine eR.step 1 (F' := (56, [(0, .ref 3), (1, .int (nI ((fw d A.1 A.2 U).2.2.1))), (2, .int (nI ((fr_ d (fw d A.1 A.2 U).1 (fw d A.1 A.2 U).2.1) (32 + (16 * (fw d A.1 A.2 U).2.2.1) + 1))))], [.int (nI ((fr_ d (fw d A.1 A.2 U).1 (fw d A.1 A.2 U).2.1) (32 + (16 * (fw d A.1 A.2 U).2.2.1) + 1)))])) (h' := (Gc L xs (A.1, 0) B (fw d A.1 A.2 U) V S (fr_ d (fw d A.1 A.2 U).1 (fw d A.1 A.2 U).2.1) X)) (fun _ _ => rfl) ?_
  exact eR.ret rfl rfl rfl
theorem c_unlink0 {cm sm fr lo L : Nat} {xs : Nat → Int32} {A B : gT} {U V : gU} {S : gS} {d : Nat → Nat} {X : mj_H} (hlo : 133 ≤ lo) (hd : dk d) (ht : ∀ k, A.1 k < 65536) (hl : A.2 ≤ 40) (hn : ∀ k, U.2.2.2 k < 128) (h0 : d 11 ≠ 0) (h1 : (fw d A.1 A.2 U).2.2.1 ≠ 0) (h2 : d (32 + (16 * (fw d A.1 A.2 U).2.2.1)) ≠ 2) (h3 : (fr_ d (fw d A.1 A.2 U).1 (fw d A.1 A.2 U).2.1) (32 + (16 * (fw d A.1 A.2 U).2.2.1) + 1) = 0) : eE mm_P cm sm (fr + 8) lo 86 [.ref 3] (Gc L xs A B U V S d X) (.inl (some (.int (nI ((fr_ d (fw d A.1 A.2 U).1 (fw d A.1 A.2 U).2.1) (32 + (16 * (fw d A.1 A.2 U).2.2.1) + 1))))), (Gc L xs (A.1, 0) B (fw d A.1 A.2 U) V S (gi (fr_ d (fw d A.1 A.2 U).1 (fw d A.1 A.2 U).2.1) (fw d A.1 A.2 U).2.2.1) X)) := by
  refine eE.of ?_
  refine eR.step 1 (F' := (1, [(0, .ref 3)], [.ref 3])) (h' := (Gc L xs A B U V S d X)) (fun _ _ => rfl) ?_
  have hk := fw_pk (t := A.1) (l := A.2) hd hn
  have hp : (fw d A.1 A.2 U).1 < 2 ^ 20 := Nat.lt_trans hk.1 (by decide)
  have hi : (fw d A.1 A.2 U).2.2.1 < 2 ^ 20 := Nat.lt_trans hk.2.2.1 (by decide)
  have hs : (fw d A.1 A.2 U).2.1 < 2 ^ 20 := Nat.lt_trans hk.2.1 (by decide)
  refine eR.call (k' := 64) (as := [.ref 3]) (rest := []) (v := none) (h1 := (Gc L xs (A.1, 0) B (fw d A.1 A.2 U) V S d X)) rfl rfl rfl rfl (eg (Nat.le_of_ble_eq_true rfl) (show 20 ≤ lo by omega) (Nat.le_of_ble_eq_true rfl)) (c_takePath_15 (show 112 ≤ lo - 20 by omega) hd ht hl hn) ?_
  refine eR.step 3 (F' := (9, [(0, .ref 3)], [.ref 19, .ref 3])) (h' := (Gc L xs (A.1, 0) B (fw d A.1 A.2 U) V S d X)) (fun _ _ => rfl) ?_
  refine eR.call (k' := 84) (as := [.ref 3, .ref 19]) (rest := []) (v := some (.int (nI ((fw d A.1 A.2 U).2.2.1)))) (h1 := (Gc L xs (A.1, 0) B (fw d A.1 A.2 U) V S d X)) rfl rfl rfl rfl (eg (Nat.le_of_ble_eq_true rfl) (show 22 ≤ lo by omega) (Nat.le_of_ble_eq_true rfl)) (c_file_19 (U := (fw d A.1 A.2 U)) (show 62 ≤ lo - 22 by omega) hd h0 hi h1 h2) ?_
  refine eR.step 9 (F' := (31, [(0, .ref 3), (1, .int (nI ((fw d A.1 A.2 U).2.2.1)))], [.int (nI ((fw d A.1 A.2 U).2.1)), .int (nI ((fw d A.1 A.2 U).1)), .ref 9])) (h' := (Gc L xs (A.1, 0) B (fw d A.1 A.2 U) V S d X)) (fun _ _ => rfl) ?_
  refine eR.call (k' := 87) (as := [.ref 9, .int (nI ((fw d A.1 A.2 U).1)), .int (nI ((fw d A.1 A.2 U).2.1))]) (rest := []) (v := none) (h1 := (Gc L xs (A.1, 0) B (fw d A.1 A.2 U) V S (fr_ d (fw d A.1 A.2 U).1 (fw d A.1 A.2 U).2.1) X)) rfl rfl rfl rfl (eg (Nat.le_of_ble_eq_true rfl) (show 23 ≤ lo by omega) (Nat.le_of_ble_eq_true rfl)) (c_free (show 66 ≤ lo - 23 by omega) hd hp hs) ?_
  refine eR.step 3 (F' := (39, [(0, .ref 3), (1, .int (nI ((fw d A.1 A.2 U).2.2.1)))], [.int (nI ((fw d A.1 A.2 U).2.2.1)), .ref 8])) (h' := (Gc L xs (A.1, 0) B (fw d A.1 A.2 U) V S (fr_ d (fw d A.1 A.2 U).1 (fw d A.1 A.2 U).2.1) X)) (fun _ _ => rfl) ?_
  have h6 := (fr_dk hd (fw d A.1 A.2 U).1 (fw d A.1 A.2 U).2.1).1 (32 + (16 * (fw d A.1 A.2 U).2.2.1) + 1)
  refine eR.call (k' := 27) (as := [.ref 8, .int (nI ((fw d A.1 A.2 U).2.2.1))]) (rest := []) (v := some (.int (nI ((fr_ d (fw d A.1 A.2 U).1 (fw d A.1 A.2 U).2.1) (32 + (16 * (fw d A.1 A.2 U).2.2.1) + 1))))) (h1 := (Gc L xs (A.1, 0) B (fw d A.1 A.2 U) V S (fr_ d (fw d A.1 A.2 U).1 (fw d A.1 A.2 U).2.1) X)) rfl rfl rfl rfl (eg (Nat.le_of_ble_eq_true rfl) (show 21 ≤ lo by omega) (Nat.le_of_ble_eq_true rfl)) (c_links (show 21 ≤ lo - 21 by omega) (fr_dk hd _ _) hi) ?_
  refine eR.step 2 (F' := (44, [(0, .ref 3), (1, .int (nI ((fw d A.1 A.2 U).2.2.1))), (2, .int (nI ((fr_ d (fw d A.1 A.2 U).1 (fw d A.1 A.2 U).2.1) (32 + (16 * (fw d A.1 A.2 U).2.2.1) + 1))))], [.int (nI ((fr_ d (fw d A.1 A.2 U).1 (fw d A.1 A.2 U).2.1) (32 + (16 * (fw d A.1 A.2 U).2.2.1) + 1)))])) (h' := (Gc L xs (A.1, 0) B (fw d A.1 A.2 U) V S (fr_ d (fw d A.1 A.2 U).1 (fw d A.1 A.2 U).2.1) X)) (fun _ _ => rfl) ?_
  refine eR.ifc rfl false ((nc_ne (b := 0) (by omega) (by decide)).trans (decide_eq_false (by omega))) ?_
  refine eR.step 3 (F' := (52, [(0, .ref 3), (1, .int (nI ((fw d A.1 A.2 U).2.2.1))), (2, .int (nI ((fr_ d (fw d A.1 A.2 U).1 (fw d A.1 A.2 U).2.1) (32 + (16 * (fw d A.1 A.2 U).2.2.1) + 1))))], [.int (nI ((fw d A.1 A.2 U).2.2.1)), .ref 8])) (h' := (Gc L xs (A.1, 0) B (fw d A.1 A.2 U) V S (fr_ d (fw d A.1 A.2 U).1 (fw d A.1 A.2 U).2.1) X)) (fun _ _ => rfl) ?_
  refine eR.call (k' := 88) (as := [.ref 8, .int (nI ((fw d A.1 A.2 U).2.2.1))]) (rest := []) (v := none) (h1 := (Gc L xs (A.1, 0) B (fw d A.1 A.2 U) V S (gi (fr_ d (fw d A.1 A.2 U).1 (fw d A.1 A.2 U).2.1) (fw d A.1 A.2 U).2.2.1) X)) rfl rfl rfl rfl (eg (Nat.le_of_ble_eq_true rfl) (show 21 ≤ lo by omega) (Nat.le_of_ble_eq_true rfl)) (c_giveBack (show 112 ≤ lo - 21 by omega) (fr_dk hd _ _) (Nat.lt_trans hk.2.2.1 (by decide))) ?_
  refine eR.step 1 (F' := (56, [(0, .ref 3), (1, .int (nI ((fw d A.1 A.2 U).2.2.1))), (2, .int (nI ((fr_ d (fw d A.1 A.2 U).1 (fw d A.1 A.2 U).2.1) (32 + (16 * (fw d A.1 A.2 U).2.2.1) + 1))))], [.int (nI ((fr_ d (fw d A.1 A.2 U).1 (fw d A.1 A.2 U).2.1) (32 + (16 * (fw d A.1 A.2 U).2.2.1) + 1)))])) (h' := (Gc L xs (A.1, 0) B (fw d A.1 A.2 U) V S (gi (fr_ d (fw d A.1 A.2 U).1 (fw d A.1 A.2 U).2.1) (fw d A.1 A.2 U).2.2.1) X)) (fun _ _ => rfl) ?_
  exact eR.ret rfl rfl rfl
theorem c_rmdirT0 {cm sm fr lo L : Nat} {xs : Nat → Int32} {A B : gT} {U V : gU} {S : gS} {d : Nat → Nat} {X : mj_H} (hlo : 200 ≤ lo) (hR : gR cm sm L X) (hd : dk d) (ht : ∀ k, A.1 k < 65536) (hl : A.2 ≤ 40) (hn : ∀ k, U.2.2.2 k < 128) (h0 : d 11 = 0) : eE mm_P cm sm (fr + 9) lo 92 [.ref 3] (Gc L xs A B U V S d X) (.inr (23 + X.length), (Gc L xs (A.1, 0) B (fw d A.1 A.2 U) V S d (X ++ [.inr (0, [])]))) := by
  refine eE.of ?_
  refine eR.step 1 (F' := (1, [(0, .ref 3)], [.ref 3])) (h' := (Gc L xs A B U V S d X)) (fun _ _ => rfl) ?_
  have hk := fw_pk (t := A.1) (l := A.2) hd hn
  have hp : (fw d A.1 A.2 U).1 < 2 ^ 20 := Nat.lt_trans hk.1 (by decide)
  have hi : (fw d A.1 A.2 U).2.2.1 < 2 ^ 20 := Nat.lt_trans hk.2.2.1 (by decide)
  have hs : (fw d A.1 A.2 U).2.1 < 2 ^ 20 := Nat.lt_trans hk.2.1 (by decide)
  refine eR.call (k' := 64) (as := [.ref 3]) (rest := []) (v := none) (h1 := (Gc L xs (A.1, 0) B (fw d A.1 A.2 U) V S d X)) rfl rfl rfl rfl (eg (Nat.le_of_ble_eq_true rfl) (show 20 ≤ lo by omega) (Nat.le_of_ble_eq_true rfl)) (c_takePath_15 (show 112 ≤ lo - 20 by omega) hd ht hl hn) ?_
  refine eR.step 3 (F' := (9, [(0, .ref 3)], [.ref 19, .ref 3])) (h' := (Gc L xs (A.1, 0) B (fw d A.1 A.2 U) V S d X)) (fun _ _ => rfl) ?_
  exact eR.callU (k' := 85) (as := [.ref 3, .ref 19]) (rest := []) (cx := 0) (fs := []) (h1 := (Gc L xs (A.1, 0) B (fw d A.1 A.2 U) V S d (X ++ [.inr (0, [])]))) rfl rfl rfl rfl (eg (Nat.le_of_ble_eq_true rfl) (show 21 ≤ lo by omega) (Nat.le_of_ble_eq_true rfl)) (c_thing_19T0 (U := (fw d A.1 A.2 U)) (show 121 ≤ lo - 21 by omega) hR hd h0) (Gc_top ..) rfl rfl rfl
theorem c_rmdirT1 {cm sm fr lo L : Nat} {xs : Nat → Int32} {A B : gT} {U V : gU} {S : gS} {d : Nat → Nat} {X : mj_H} (hlo : 200 ≤ lo) (hR : gR cm sm L X) (hd : dk d) (ht : ∀ k, A.1 k < 65536) (hl : A.2 ≤ 40) (hn : ∀ k, U.2.2.2 k < 128) (h0 : d 11 ≠ 0) (h1 : (fw d A.1 A.2 U).2.2.1 = 0) : eE mm_P cm sm (fr + 9) lo 92 [.ref 3] (Gc L xs A B U V S d X) (.inr (23 + X.length), (Gc L xs (A.1, 0) B (fw d A.1 A.2 U) V S d (X ++ [.inr (1, [])]))) := by
  refine eE.of ?_
  refine eR.step 1 (F' := (1, [(0, .ref 3)], [.ref 3])) (h' := (Gc L xs A B U V S d X)) (fun _ _ => rfl) ?_
  have hk := fw_pk (t := A.1) (l := A.2) hd hn
  have hp : (fw d A.1 A.2 U).1 < 2 ^ 20 := Nat.lt_trans hk.1 (by decide)
  have hi : (fw d A.1 A.2 U).2.2.1 < 2 ^ 20 := Nat.lt_trans hk.2.2.1 (by decide)
  have hs : (fw d A.1 A.2 U).2.1 < 2 ^ 20 := Nat.lt_trans hk.2.1 (by decide)
  refine eR.call (k' := 64) (as := [.ref 3]) (rest := []) (v := none) (h1 := (Gc L xs (A.1, 0) B (fw d A.1 A.2 U) V S d X)) rfl rfl rfl rfl (eg (Nat.le_of_ble_eq_true rfl) (show 20 ≤ lo by omega) (Nat.le_of_ble_eq_true rfl)) (c_takePath_15 (show 112 ≤ lo - 20 by omega) hd ht hl hn) ?_
  refine eR.step 3 (F' := (9, [(0, .ref 3)], [.ref 19, .ref 3])) (h' := (Gc L xs (A.1, 0) B (fw d A.1 A.2 U) V S d X)) (fun _ _ => rfl) ?_
  exact eR.callU (k' := 85) (as := [.ref 3, .ref 19]) (rest := []) (cx := 1) (fs := []) (h1 := (Gc L xs (A.1, 0) B (fw d A.1 A.2 U) V S d (X ++ [.inr (1, [])]))) rfl rfl rfl rfl (eg (Nat.le_of_ble_eq_true rfl) (show 21 ≤ lo by omega) (Nat.le_of_ble_eq_true rfl)) (c_thing_19T1 (U := (fw d A.1 A.2 U)) (show 121 ≤ lo - 21 by omega) hR hd h0 h1) (Gc_top ..) rfl rfl rfl
theorem c_rmdirT2 {cm sm fr lo L : Nat} {xs : Nat → Int32} {A B : gT} {U V : gU} {S : gS} {d : Nat → Nat} {X : mj_H} (hlo : 200 ≤ lo) (hR : gR cm sm L X) (hd : dk d) (ht : ∀ k, A.1 k < 65536) (hl : A.2 ≤ 40) (hn : ∀ k, U.2.2.2 k < 128) (h0 : d 11 ≠ 0) (h1 : (fw d A.1 A.2 U).2.2.1 ≠ 0) (h2 : d (32 + (16 * (fw d A.1 A.2 U).2.2.1)) ≠ 2) : eE mm_P cm sm (fr + 9) lo 92 [.ref 3] (Gc L xs A B U V S d X) (.inr (23 + X.length), (Gc L xs (A.1, 0) B (fw d A.1 A.2 U) V S d (X ++ [.inr (2, [])]))) := by
  refine eE.of ?_
  refine eR.step 1 (F' := (1, [(0, .ref 3)], [.ref 3])) (h' := (Gc L xs A B U V S d X)) (fun _ _ => rfl) ?_
  have hk := fw_pk (t := A.1) (l := A.2) hd hn
  have hp : (fw d A.1 A.2 U).1 < 2 ^ 20 := Nat.lt_trans hk.1 (by decide)
  have hi : (fw d A.1 A.2 U).2.2.1 < 2 ^ 20 := Nat.lt_trans hk.2.2.1 (by decide)
  have hs : (fw d A.1 A.2 U).2.1 < 2 ^ 20 := Nat.lt_trans hk.2.1 (by decide)
  refine eR.call (k' := 64) (as := [.ref 3]) (rest := []) (v := none) (h1 := (Gc L xs (A.1, 0) B (fw d A.1 A.2 U) V S d X)) rfl rfl rfl rfl (eg (Nat.le_of_ble_eq_true rfl) (show 20 ≤ lo by omega) (Nat.le_of_ble_eq_true rfl)) (c_takePath_15 (show 112 ≤ lo - 20 by omega) hd ht hl hn) ?_
  refine eR.step 3 (F' := (9, [(0, .ref 3)], [.ref 19, .ref 3])) (h' := (Gc L xs (A.1, 0) B (fw d A.1 A.2 U) V S d X)) (fun _ _ => rfl) ?_
  refine eR.call (k' := 85) (as := [.ref 3, .ref 19]) (rest := []) (v := some (.int (nI ((fw d A.1 A.2 U).2.2.1)))) (h1 := (Gc L xs (A.1, 0) B (fw d A.1 A.2 U) V S d X)) rfl rfl rfl rfl (eg (Nat.le_of_ble_eq_true rfl) (show 21 ≤ lo by omega) (Nat.le_of_ble_eq_true rfl)) (c_thing_19 (U := (fw d A.1 A.2 U)) (show 41 ≤ lo - 21 by omega) hd h0 hi h1) ?_
  refine eR.step 4 (F' := (18, [(0, .ref 3), (1, .int (nI ((fw d A.1 A.2 U).2.2.1)))], [.int (nI ((fw d A.1 A.2 U).2.2.1)), .ref 8])) (h' := (Gc L xs (A.1, 0) B (fw d A.1 A.2 U) V S d X)) (fun _ _ => rfl) ?_
  have h6 := hd.1 (32 + (16 * (fw d A.1 A.2 U).2.2.1))
  refine eR.call (k' := 41) (as := [.ref 8, .int (nI ((fw d A.1 A.2 U).2.2.1))]) (rest := []) (v := some (.int (nI (d (32 + (16 * (fw d A.1 A.2 U).2.2.1)))))) (h1 := (Gc L xs (A.1, 0) B (fw d A.1 A.2 U) V S d X)) rfl rfl rfl rfl (eg (Nat.le_of_ble_eq_true rfl) (show 21 ≤ lo by omega) (Nat.le_of_ble_eq_true rfl)) (c_kind (show 21 ≤ lo - 21 by omega) hd hi) ?_
  refine eR.step 1 (F' := (22, [(0, .ref 3), (1, .int (nI ((fw d A.1 A.2 U).2.2.1)))], [.int (nI 2), .int (nI (d (32 + (16 * (fw d A.1 A.2 U).2.2.1))))])) (h' := (Gc L xs (A.1, 0) B (fw d A.1 A.2 U) V S d X)) (fun _ _ => rfl) ?_
  refine eR.icmp rfl true ((nc_ne (by omega) (by omega)).trans (decide_eq_true (by omega))) ?_
  exact thrH (cx := 2) rfl rfl rfl rfl rfl rfl rfl (by omega) (by omega) hR
theorem c_rmdirT3 {cm sm fr lo L : Nat} {xs : Nat → Int32} {A B : gT} {U V : gU} {S : gS} {d : Nat → Nat} {X : mj_H} (hlo : 200 ≤ lo) (hR : gR cm sm L X) (hd : dk d) (ht : ∀ k, A.1 k < 65536) (hl : A.2 ≤ 40) (hn : ∀ k, U.2.2.2 k < 128) (h0 : d 11 ≠ 0) (h1 : (fw d A.1 A.2 U).2.2.1 ≠ 0) (h2 : d (32 + (16 * (fw d A.1 A.2 U).2.2.1)) = 2) (h3 : (fw d A.1 A.2 U).2.2.1 = 1) : eE mm_P cm sm (fr + 9) lo 92 [.ref 3] (Gc L xs A B U V S d X) (.inr (23 + X.length), (Gc L xs (A.1, 0) B (fw d A.1 A.2 U) V S d (X ++ [.inr (2, [])]))) := by
  refine eE.of ?_
  refine eR.step 1 (F' := (1, [(0, .ref 3)], [.ref 3])) (h' := (Gc L xs A B U V S d X)) (fun _ _ => rfl) ?_
  have hk := fw_pk (t := A.1) (l := A.2) hd hn
  have hp : (fw d A.1 A.2 U).1 < 2 ^ 20 := Nat.lt_trans hk.1 (by decide)
  have hi : (fw d A.1 A.2 U).2.2.1 < 2 ^ 20 := Nat.lt_trans hk.2.2.1 (by decide)
  have hs : (fw d A.1 A.2 U).2.1 < 2 ^ 20 := Nat.lt_trans hk.2.1 (by decide)
  refine eR.call (k' := 64) (as := [.ref 3]) (rest := []) (v := none) (h1 := (Gc L xs (A.1, 0) B (fw d A.1 A.2 U) V S d X)) rfl rfl rfl rfl (eg (Nat.le_of_ble_eq_true rfl) (show 20 ≤ lo by omega) (Nat.le_of_ble_eq_true rfl)) (c_takePath_15 (show 112 ≤ lo - 20 by omega) hd ht hl hn) ?_
  refine eR.step 3 (F' := (9, [(0, .ref 3)], [.ref 19, .ref 3])) (h' := (Gc L xs (A.1, 0) B (fw d A.1 A.2 U) V S d X)) (fun _ _ => rfl) ?_
  refine eR.call (k' := 85) (as := [.ref 3, .ref 19]) (rest := []) (v := some (.int (nI ((fw d A.1 A.2 U).2.2.1)))) (h1 := (Gc L xs (A.1, 0) B (fw d A.1 A.2 U) V S d X)) rfl rfl rfl rfl (eg (Nat.le_of_ble_eq_true rfl) (show 21 ≤ lo by omega) (Nat.le_of_ble_eq_true rfl)) (c_thing_19 (U := (fw d A.1 A.2 U)) (show 41 ≤ lo - 21 by omega) hd h0 hi h1) ?_
  refine eR.step 4 (F' := (18, [(0, .ref 3), (1, .int (nI ((fw d A.1 A.2 U).2.2.1)))], [.int (nI ((fw d A.1 A.2 U).2.2.1)), .ref 8])) (h' := (Gc L xs (A.1, 0) B (fw d A.1 A.2 U) V S d X)) (fun _ _ => rfl) ?_
  have h6 := hd.1 (32 + (16 * (fw d A.1 A.2 U).2.2.1))
  refine eR.call (k' := 41) (as := [.ref 8, .int (nI ((fw d A.1 A.2 U).2.2.1))]) (rest := []) (v := some (.int (nI (d (32 + (16 * (fw d A.1 A.2 U).2.2.1)))))) (h1 := (Gc L xs (A.1, 0) B (fw d A.1 A.2 U) V S d X)) rfl rfl rfl rfl (eg (Nat.le_of_ble_eq_true rfl) (show 21 ≤ lo by omega) (Nat.le_of_ble_eq_true rfl)) (c_kind (show 21 ≤ lo - 21 by omega) hd hi) ?_
  refine eR.step 1 (F' := (22, [(0, .ref 3), (1, .int (nI ((fw d A.1 A.2 U).2.2.1)))], [.int (nI 2), .int (nI (d (32 + (16 * (fw d A.1 A.2 U).2.2.1))))])) (h' := (Gc L xs (A.1, 0) B (fw d A.1 A.2 U) V S d X)) (fun _ _ => rfl) ?_
  refine eR.icmp rfl false ((nc_ne (by omega) (by omega)).trans (decide_eq_false (by omega))) ?_
  refine eR.step 2 (F' := (27, [(0, .ref 3), (1, .int (nI ((fw d A.1 A.2 U).2.2.1)))], [.int (nI 1), .int (nI ((fw d A.1 A.2 U).2.2.1))])) (h' := (Gc L xs (A.1, 0) B (fw d A.1 A.2 U) V S d X)) (fun _ _ => rfl) ?_
  refine eR.icmp rfl false ((nc_ne (by omega) (by omega)).trans (decide_eq_false (by omega))) ?_
  exact thrH (cx := 2) rfl rfl rfl rfl rfl rfl rfl (by omega) (by omega) hR
theorem c_rmdirT4 {cm sm fr lo L : Nat} {xs : Nat → Int32} {A B : gT} {U V : gU} {S : gS} {d : Nat → Nat} {X : mj_H} (hlo : 200 ≤ lo) (hR : gR cm sm L X) (hd : dk d) (ht : ∀ k, A.1 k < 65536) (hl : A.2 ≤ 40) (hn : ∀ k, U.2.2.2 k < 128) (h0 : d 11 ≠ 0) (h1 : (fw d A.1 A.2 U).2.2.1 ≠ 0) (h2 : d (32 + (16 * (fw d A.1 A.2 U).2.2.1)) = 2) (h3 : (fw d A.1 A.2 U).2.2.1 ≠ 1) (h4 : ¬ em d (fw d A.1 A.2 U).2.2.1 2 (sn d (fw d A.1 A.2 U).2.2.1 - 2) = true) : eE mm_P cm sm (fr + 9) lo 92 [.ref 3] (Gc L xs A B U V S d X) (.inr (23 + X.length), (Gc L xs (A.1, 0) B (fw d A.1 A.2 U) V S d (X ++ [.inr (3, [])]))) := by
  refine eE.of ?_
  refine eR.step 1 (F' := (1, [(0, .ref 3)], [.ref 3])) (h' := (Gc L xs A B U V S d X)) (fun _ _ => rfl) ?_
  have hk := fw_pk (t := A.1) (l := A.2) hd hn
  have hp : (fw d A.1 A.2 U).1 < 2 ^ 20 := Nat.lt_trans hk.1 (by decide)
  have hi : (fw d A.1 A.2 U).2.2.1 < 2 ^ 20 := Nat.lt_trans hk.2.2.1 (by decide)
  have hs : (fw d A.1 A.2 U).2.1 < 2 ^ 20 := Nat.lt_trans hk.2.1 (by decide)
  refine eR.call (k' := 64) (as := [.ref 3]) (rest := []) (v := none) (h1 := (Gc L xs (A.1, 0) B (fw d A.1 A.2 U) V S d X)) rfl rfl rfl rfl (eg (Nat.le_of_ble_eq_true rfl) (show 20 ≤ lo by omega) (Nat.le_of_ble_eq_true rfl)) (c_takePath_15 (show 112 ≤ lo - 20 by omega) hd ht hl hn) ?_
  refine eR.step 3 (F' := (9, [(0, .ref 3)], [.ref 19, .ref 3])) (h' := (Gc L xs (A.1, 0) B (fw d A.1 A.2 U) V S d X)) (fun _ _ => rfl) ?_
  refine eR.call (k' := 85) (as := [.ref 3, .ref 19]) (rest := []) (v := some (.int (nI ((fw d A.1 A.2 U).2.2.1)))) (h1 := (Gc L xs (A.1, 0) B (fw d A.1 A.2 U) V S d X)) rfl rfl rfl rfl (eg (Nat.le_of_ble_eq_true rfl) (show 21 ≤ lo by omega) (Nat.le_of_ble_eq_true rfl)) (c_thing_19 (U := (fw d A.1 A.2 U)) (show 41 ≤ lo - 21 by omega) hd h0 hi h1) ?_
  refine eR.step 4 (F' := (18, [(0, .ref 3), (1, .int (nI ((fw d A.1 A.2 U).2.2.1)))], [.int (nI ((fw d A.1 A.2 U).2.2.1)), .ref 8])) (h' := (Gc L xs (A.1, 0) B (fw d A.1 A.2 U) V S d X)) (fun _ _ => rfl) ?_
  have h6 := hd.1 (32 + (16 * (fw d A.1 A.2 U).2.2.1))
  refine eR.call (k' := 41) (as := [.ref 8, .int (nI ((fw d A.1 A.2 U).2.2.1))]) (rest := []) (v := some (.int (nI (d (32 + (16 * (fw d A.1 A.2 U).2.2.1)))))) (h1 := (Gc L xs (A.1, 0) B (fw d A.1 A.2 U) V S d X)) rfl rfl rfl rfl (eg (Nat.le_of_ble_eq_true rfl) (show 21 ≤ lo by omega) (Nat.le_of_ble_eq_true rfl)) (c_kind (show 21 ≤ lo - 21 by omega) hd hi) ?_
  refine eR.step 1 (F' := (22, [(0, .ref 3), (1, .int (nI ((fw d A.1 A.2 U).2.2.1)))], [.int (nI 2), .int (nI (d (32 + (16 * (fw d A.1 A.2 U).2.2.1))))])) (h' := (Gc L xs (A.1, 0) B (fw d A.1 A.2 U) V S d X)) (fun _ _ => rfl) ?_
  refine eR.icmp rfl false ((nc_ne (by omega) (by omega)).trans (decide_eq_false (by omega))) ?_
  refine eR.step 2 (F' := (27, [(0, .ref 3), (1, .int (nI ((fw d A.1 A.2 U).2.2.1)))], [.int (nI 1), .int (nI ((fw d A.1 A.2 U).2.2.1))])) (h' := (Gc L xs (A.1, 0) B (fw d A.1 A.2 U) V S d X)) (fun _ _ => rfl) ?_
  refine eR.icmp rfl true ((nc_ne (by omega) (by omega)).trans (decide_eq_true (by omega))) ?_
  refine eR.step 3 (F' := (45, [(0, .ref 3), (1, .int (nI ((fw d A.1 A.2 U).2.2.1)))], [.int (nI ((fw d A.1 A.2 U).2.2.1)), .ref 9])) (h' := (Gc L xs (A.1, 0) B (fw d A.1 A.2 U) V S d X)) (fun _ _ => rfl) ?_
  refine eR.call (k' := 93) (as := [.ref 9, .int (nI ((fw d A.1 A.2 U).2.2.1))]) (rest := []) (v := some (.int (nI (bi (em d (fw d A.1 A.2 U).2.2.1 2 (sn d (fw d A.1 A.2 U).2.2.1 - 2)))))) (h1 := (Gc L xs (A.1, 0) B (fw d A.1 A.2 U) V S d X)) rfl rfl rfl rfl (eg (Nat.le_of_ble_eq_true rfl) (show 23 ≤ lo by omega) (Nat.le_of_ble_eq_true rfl)) (c_isEmpty (show 66 ≤ lo - 23 by omega) hd hi) ?_
  rw [bj_f h4]
  refine eR.ifc rfl false rfl ?_
  exact thrH (cx := 3) rfl rfl rfl rfl rfl rfl rfl (by omega) (by omega) hR
theorem c_rmdir {cm sm fr lo L : Nat} {xs : Nat → Int32} {A B : gT} {U V : gU} {S : gS} {d : Nat → Nat} {X : mj_H} (hlo : 133 ≤ lo) (hd : dk d) (ht : ∀ k, A.1 k < 65536) (hl : A.2 ≤ 40) (hn : ∀ k, U.2.2.2 k < 128) (h0 : d 11 ≠ 0) (h1 : (fw d A.1 A.2 U).2.2.1 ≠ 0) (h2 : d (32 + (16 * (fw d A.1 A.2 U).2.2.1)) = 2) (h3 : (fw d A.1 A.2 U).2.2.1 ≠ 1) (h4 : em d (fw d A.1 A.2 U).2.2.1 2 (sn d (fw d A.1 A.2 U).2.2.1 - 2) = true) : eE mm_P cm sm (fr + 8) lo 92 [.ref 3] (Gc L xs A B U V S d X) (.inl (some (.int (nI (hm (gi (al (fr_ d (fw d A.1 A.2 U).1 (fw d A.1 A.2 U).2.1) (fw d A.1 A.2 U).1 4294967295) (fw d A.1 A.2 U).2.2.1) 2 1 15)))), (Gc L xs (A.1, 0) B (fw d A.1 A.2 U) V S (gi (al (fr_ d (fw d A.1 A.2 U).1 (fw d A.1 A.2 U).2.1) (fw d A.1 A.2 U).1 4294967295) (fw d A.1 A.2 U).2.2.1) X)) := by
  refine eE.of ?_
  refine eR.step 1 (F' := (1, [(0, .ref 3)], [.ref 3])) (h' := (Gc L xs A B U V S d X)) (fun _ _ => rfl) ?_
  have hk := fw_pk (t := A.1) (l := A.2) hd hn
  have hp : (fw d A.1 A.2 U).1 < 2 ^ 20 := Nat.lt_trans hk.1 (by decide)
  have hi : (fw d A.1 A.2 U).2.2.1 < 2 ^ 20 := Nat.lt_trans hk.2.2.1 (by decide)
  have hs : (fw d A.1 A.2 U).2.1 < 2 ^ 20 := Nat.lt_trans hk.2.1 (by decide)
  refine eR.call (k' := 64) (as := [.ref 3]) (rest := []) (v := none) (h1 := (Gc L xs (A.1, 0) B (fw d A.1 A.2 U) V S d X)) rfl rfl rfl rfl (eg (Nat.le_of_ble_eq_true rfl) (show 20 ≤ lo by omega) (Nat.le_of_ble_eq_true rfl)) (c_takePath_15 (show 112 ≤ lo - 20 by omega) hd ht hl hn) ?_
  refine eR.step 3 (F' := (9, [(0, .ref 3)], [.ref 19, .ref 3])) (h' := (Gc L xs (A.1, 0) B (fw d A.1 A.2 U) V S d X)) (fun _ _ => rfl) ?_
  refine eR.call (k' := 85) (as := [.ref 3, .ref 19]) (rest := []) (v := some (.int (nI ((fw d A.1 A.2 U).2.2.1)))) (h1 := (Gc L xs (A.1, 0) B (fw d A.1 A.2 U) V S d X)) rfl rfl rfl rfl (eg (Nat.le_of_ble_eq_true rfl) (show 21 ≤ lo by omega) (Nat.le_of_ble_eq_true rfl)) (c_thing_19 (U := (fw d A.1 A.2 U)) (show 41 ≤ lo - 21 by omega) hd h0 hi h1) ?_
  refine eR.step 4 (F' := (18, [(0, .ref 3), (1, .int (nI ((fw d A.1 A.2 U).2.2.1)))], [.int (nI ((fw d A.1 A.2 U).2.2.1)), .ref 8])) (h' := (Gc L xs (A.1, 0) B (fw d A.1 A.2 U) V S d X)) (fun _ _ => rfl) ?_
  have h6 := hd.1 (32 + (16 * (fw d A.1 A.2 U).2.2.1))
  refine eR.call (k' := 41) (as := [.ref 8, .int (nI ((fw d A.1 A.2 U).2.2.1))]) (rest := []) (v := some (.int (nI (d (32 + (16 * (fw d A.1 A.2 U).2.2.1)))))) (h1 := (Gc L xs (A.1, 0) B (fw d A.1 A.2 U) V S d X)) rfl rfl rfl rfl (eg (Nat.le_of_ble_eq_true rfl) (show 21 ≤ lo by omega) (Nat.le_of_ble_eq_true rfl)) (c_kind (show 21 ≤ lo - 21 by omega) hd hi) ?_
  refine eR.step 1 (F' := (22, [(0, .ref 3), (1, .int (nI ((fw d A.1 A.2 U).2.2.1)))], [.int (nI 2), .int (nI (d (32 + (16 * (fw d A.1 A.2 U).2.2.1))))])) (h' := (Gc L xs (A.1, 0) B (fw d A.1 A.2 U) V S d X)) (fun _ _ => rfl) ?_
  refine eR.icmp rfl false ((nc_ne (by omega) (by omega)).trans (decide_eq_false (by omega))) ?_
  refine eR.step 2 (F' := (27, [(0, .ref 3), (1, .int (nI ((fw d A.1 A.2 U).2.2.1)))], [.int (nI 1), .int (nI ((fw d A.1 A.2 U).2.2.1))])) (h' := (Gc L xs (A.1, 0) B (fw d A.1 A.2 U) V S d X)) (fun _ _ => rfl) ?_
  refine eR.icmp rfl true ((nc_ne (by omega) (by omega)).trans (decide_eq_true (by omega))) ?_
  refine eR.step 3 (F' := (45, [(0, .ref 3), (1, .int (nI ((fw d A.1 A.2 U).2.2.1)))], [.int (nI ((fw d A.1 A.2 U).2.2.1)), .ref 9])) (h' := (Gc L xs (A.1, 0) B (fw d A.1 A.2 U) V S d X)) (fun _ _ => rfl) ?_
  refine eR.call (k' := 93) (as := [.ref 9, .int (nI ((fw d A.1 A.2 U).2.2.1))]) (rest := []) (v := some (.int (nI (bi (em d (fw d A.1 A.2 U).2.2.1 2 (sn d (fw d A.1 A.2 U).2.2.1 - 2)))))) (h1 := (Gc L xs (A.1, 0) B (fw d A.1 A.2 U) V S d X)) rfl rfl rfl rfl (eg (Nat.le_of_ble_eq_true rfl) (show 23 ≤ lo by omega) (Nat.le_of_ble_eq_true rfl)) (c_isEmpty (show 66 ≤ lo - 23 by omega) hd hi) ?_
  rw [bj_t h4]
  refine eR.ifc rfl true rfl ?_
  refine eR.step 8 (F' := (79, [(0, .ref 3), (1, .int (nI ((fw d A.1 A.2 U).2.2.1)))], [.int (nI ((fw d A.1 A.2 U).2.1)), .int (nI ((fw d A.1 A.2 U).1)), .ref 9])) (h' := (Gc L xs (A.1, 0) B (fw d A.1 A.2 U) V S d X)) (fun _ _ => rfl) ?_
  refine eR.call (k' := 87) (as := [.ref 9, .int (nI ((fw d A.1 A.2 U).1)), .int (nI ((fw d A.1 A.2 U).2.1))]) (rest := []) (v := none) (h1 := (Gc L xs (A.1, 0) B (fw d A.1 A.2 U) V S (fr_ d (fw d A.1 A.2 U).1 (fw d A.1 A.2 U).2.1) X)) rfl rfl rfl rfl (eg (Nat.le_of_ble_eq_true rfl) (show 23 ≤ lo by omega) (Nat.le_of_ble_eq_true rfl)) (c_free (show 66 ≤ lo - 23 by omega) hd hp hs) ?_
  refine eR.step 6 (F' := (94, [(0, .ref 3), (1, .int (nI ((fw d A.1 A.2 U).2.2.1)))], [.int ((-1 : Int32)), .int (nI ((fw d A.1 A.2 U).1)), .ref 8])) (h' := (Gc L xs (A.1, 0) B (fw d A.1 A.2 U) V S (fr_ d (fw d A.1 A.2 U).1 (fw d A.1 A.2 U).2.1) X)) (fun _ _ => rfl) ?_
  rw [show (-1 : Int32) = nI 4294967295 by decide]
  refine eR.call (k' := 26) (as := [.ref 8, .int (nI ((fw d A.1 A.2 U).1)), .int (nI 4294967295)]) (rest := []) (v := none) (h1 := (Gc L xs (A.1, 0) B (fw d A.1 A.2 U) V S (al (fr_ d (fw d A.1 A.2 U).1 (fw d A.1 A.2 U).2.1) (fw d A.1 A.2 U).1 4294967295) X)) rfl rfl rfl rfl (eg (Nat.le_of_ble_eq_true rfl) (show 22 ≤ lo by omega) (Nat.le_of_ble_eq_true rfl)) (c_addLinks (show 44 ≤ lo - 22 by omega) (fr_dk hd _ _) hp) ?_
  refine eR.step 3 (F' := (102, [(0, .ref 3), (1, .int (nI ((fw d A.1 A.2 U).2.2.1)))], [.int (nI ((fw d A.1 A.2 U).2.2.1)), .ref 8])) (h' := (Gc L xs (A.1, 0) B (fw d A.1 A.2 U) V S (al (fr_ d (fw d A.1 A.2 U).1 (fw d A.1 A.2 U).2.1) (fw d A.1 A.2 U).1 4294967295) X)) (fun _ _ => rfl) ?_
  refine eR.call (k' := 88) (as := [.ref 8, .int (nI ((fw d A.1 A.2 U).2.2.1))]) (rest := []) (v := none) (h1 := (Gc L xs (A.1, 0) B (fw d A.1 A.2 U) V S (gi (al (fr_ d (fw d A.1 A.2 U).1 (fw d A.1 A.2 U).2.1) (fw d A.1 A.2 U).1 4294967295) (fw d A.1 A.2 U).2.2.1) X)) rfl rfl rfl rfl (eg (Nat.le_of_ble_eq_true rfl) (show 21 ≤ lo by omega) (Nat.le_of_ble_eq_true rfl)) (c_giveBack (show 112 ≤ lo - 21 by omega) (al_dk (fr_dk hd _ _) _ _) (Nat.lt_trans hk.2.2.1 (by decide))) ?_
  refine eR.step 3 (F' := (110, [(0, .ref 3), (1, .int (nI ((fw d A.1 A.2 U).2.2.1)))], [.int (nI 2), .ref 8])) (h' := (Gc L xs (A.1, 0) B (fw d A.1 A.2 U) V S (gi (al (fr_ d (fw d A.1 A.2 U).1 (fw d A.1 A.2 U).2.1) (fw d A.1 A.2 U).1 4294967295) (fw d A.1 A.2 U).2.2.1) X)) (fun _ _ => rfl) ?_
  refine eR.call (k' := 94) (as := [.ref 8, .int (nI 2)]) (rest := []) (v := some (.int (nI (hm (gi (al (fr_ d (fw d A.1 A.2 U).1 (fw d A.1 A.2 U).2.1) (fw d A.1 A.2 U).1 4294967295) (fw d A.1 A.2 U).2.2.1) 2 1 15)))) (h1 := (Gc L xs (A.1, 0) B (fw d A.1 A.2 U) V S (gi (al (fr_ d (fw d A.1 A.2 U).1 (fw d A.1 A.2 U).2.1) (fw d A.1 A.2 U).1 4294967295) (fw d A.1 A.2 U).2.2.1) X)) rfl rfl rfl rfl (eg (Nat.le_of_ble_eq_true rfl) (show 23 ≤ lo by omega) (Nat.le_of_ble_eq_true rfl)) (c_howMany (show 42 ≤ lo - 23 by omega) (gi_dk (al_dk (fr_dk hd _ _) _ _) _) (by decide)) ?_
  exact eR.ret rfl rfl rfl
theorem c_renameT0 {cm sm fr lo L : Nat} {xs : Nat → Int32} {A B : gT} {U V : gU} {S : gS} {d : Nat → Nat} {X : mj_H} (hlo : 200 ≤ lo) (hR : gR cm sm L X) (hd : dk d) (ht : ∀ k, A.1 k < 65536) (hl : A.2 ≤ 40) (hn : ∀ k, U.2.2.2 k < 128) (ht2 : ∀ k, B.1 k < 65536) (hl2 : B.2 ≤ 40) (hn2 : ∀ k, V.2.2.2 k < 128) (h0 : d 11 = 0) : eE mm_P cm sm (fr + 9) lo 95 [.ref 3] (Gc L xs A B U V S d X) (.inr (23 + X.length), (Gc L xs (A.1, 0) (B.1, 0) (fw d A.1 A.2 U) (fw d B.1 B.2 V) S d (X ++ [.inr (0, [])]))) := by
  refine eE.of ?_
  refine eR.step 1 (F' := (1, [(0, .ref 3)], [.ref 3])) (h' := (Gc L xs A B U V S d X)) (fun _ _ => rfl) ?_
  have hk := fw_pk (t := A.1) (l := A.2) hd hn
  have hp : (fw d A.1 A.2 U).1 < 2 ^ 20 := Nat.lt_trans hk.1 (by decide)
  have hi : (fw d A.1 A.2 U).2.2.1 < 2 ^ 20 := Nat.lt_trans hk.2.2.1 (by decide)
  have hs : (fw d A.1 A.2 U).2.1 < 2 ^ 20 := Nat.lt_trans hk.2.1 (by decide)
  refine eR.call (k' := 64) (as := [.ref 3]) (rest := []) (v := none) (h1 := (Gc L xs (A.1, 0) B (fw d A.1 A.2 U) V S d X)) rfl rfl rfl rfl (eg (Nat.le_of_ble_eq_true rfl) (show 20 ≤ lo by omega) (Nat.le_of_ble_eq_true rfl)) (c_takePath_15 (show 112 ≤ lo - 20 by omega) hd ht hl hn) ?_
  refine eR.step 1 (F' := (5, [(0, .ref 3)], [.ref 3])) (h' := (Gc L xs (A.1, 0) B (fw d A.1 A.2 U) V S d X)) (fun _ _ => rfl) ?_
  have hk2 := fw_pk (t := B.1) (l := B.2) hd hn2
  have hp2 : (fw d B.1 B.2 V).1 < 2 ^ 20 := Nat.lt_trans hk2.1 (by decide)
  have hi2 : (fw d B.1 B.2 V).2.2.1 < 2 ^ 20 := Nat.lt_trans hk2.2.2.1 (by decide)
  have hs2 : (fw d B.1 B.2 V).2.1 < 2 ^ 20 := Nat.lt_trans hk2.2.1 (by decide)
  refine eR.call (k' := 83) (as := [.ref 3]) (rest := []) (v := none) (h1 := (Gc L xs (A.1, 0) (B.1, 0) (fw d A.1 A.2 U) (fw d B.1 B.2 V) S d X)) rfl rfl rfl rfl (eg (Nat.le_of_ble_eq_true rfl) (show 20 ≤ lo by omega) (Nat.le_of_ble_eq_true rfl)) (c_takePath_17 (show 112 ≤ lo - 20 by omega) hd ht2 hl2 hn2) ?_
  refine eR.step 1 (F' := (9, [(0, .ref 3)], [.ref 3])) (h' := (Gc L xs (A.1, 0) (B.1, 0) (fw d A.1 A.2 U) (fw d B.1 B.2 V) S d X)) (fun _ _ => rfl) ?_
  exact eR.callU (k' := 72) (as := [.ref 3]) (rest := []) (cx := 0) (fs := []) (h1 := (Gc L xs (A.1, 0) (B.1, 0) (fw d A.1 A.2 U) (fw d B.1 B.2 V) S d (X ++ [.inr (0, [])]))) rfl rfl rfl rfl (eg (Nat.le_of_ble_eq_true rfl) (show 20 ≤ lo by omega) (Nat.le_of_ble_eq_true rfl)) (c_reqNewT0 (U := (fw d A.1 A.2 U)) (show 121 ≤ lo - 20 by omega) hR hd h0) (Gc_top ..) rfl rfl rfl
theorem c_renameT1 {cm sm fr lo L : Nat} {xs : Nat → Int32} {A B : gT} {U V : gU} {S : gS} {d : Nat → Nat} {X : mj_H} (hlo : 200 ≤ lo) (hR : gR cm sm L X) (hd : dk d) (ht : ∀ k, A.1 k < 65536) (hl : A.2 ≤ 40) (hn : ∀ k, U.2.2.2 k < 128) (ht2 : ∀ k, B.1 k < 65536) (hl2 : B.2 ≤ 40) (hn2 : ∀ k, V.2.2.2 k < 128) (h0 : d 11 ≠ 0) (h1 : (fw d A.1 A.2 U).1 = 0) : eE mm_P cm sm (fr + 9) lo 95 [.ref 3] (Gc L xs A B U V S d X) (.inr (23 + X.length), (Gc L xs (A.1, 0) (B.1, 0) (fw d A.1 A.2 U) (fw d B.1 B.2 V) S d (X ++ [.inr (1, [])]))) := by
  refine eE.of ?_
  refine eR.step 1 (F' := (1, [(0, .ref 3)], [.ref 3])) (h' := (Gc L xs A B U V S d X)) (fun _ _ => rfl) ?_
  have hk := fw_pk (t := A.1) (l := A.2) hd hn
  have hp : (fw d A.1 A.2 U).1 < 2 ^ 20 := Nat.lt_trans hk.1 (by decide)
  have hi : (fw d A.1 A.2 U).2.2.1 < 2 ^ 20 := Nat.lt_trans hk.2.2.1 (by decide)
  have hs : (fw d A.1 A.2 U).2.1 < 2 ^ 20 := Nat.lt_trans hk.2.1 (by decide)
  refine eR.call (k' := 64) (as := [.ref 3]) (rest := []) (v := none) (h1 := (Gc L xs (A.1, 0) B (fw d A.1 A.2 U) V S d X)) rfl rfl rfl rfl (eg (Nat.le_of_ble_eq_true rfl) (show 20 ≤ lo by omega) (Nat.le_of_ble_eq_true rfl)) (c_takePath_15 (show 112 ≤ lo - 20 by omega) hd ht hl hn) ?_
  refine eR.step 1 (F' := (5, [(0, .ref 3)], [.ref 3])) (h' := (Gc L xs (A.1, 0) B (fw d A.1 A.2 U) V S d X)) (fun _ _ => rfl) ?_
  have hk2 := fw_pk (t := B.1) (l := B.2) hd hn2
  have hp2 : (fw d B.1 B.2 V).1 < 2 ^ 20 := Nat.lt_trans hk2.1 (by decide)
  have hi2 : (fw d B.1 B.2 V).2.2.1 < 2 ^ 20 := Nat.lt_trans hk2.2.2.1 (by decide)
  have hs2 : (fw d B.1 B.2 V).2.1 < 2 ^ 20 := Nat.lt_trans hk2.2.1 (by decide)
  refine eR.call (k' := 83) (as := [.ref 3]) (rest := []) (v := none) (h1 := (Gc L xs (A.1, 0) (B.1, 0) (fw d A.1 A.2 U) (fw d B.1 B.2 V) S d X)) rfl rfl rfl rfl (eg (Nat.le_of_ble_eq_true rfl) (show 20 ≤ lo by omega) (Nat.le_of_ble_eq_true rfl)) (c_takePath_17 (show 112 ≤ lo - 20 by omega) hd ht2 hl2 hn2) ?_
  refine eR.step 1 (F' := (9, [(0, .ref 3)], [.ref 3])) (h' := (Gc L xs (A.1, 0) (B.1, 0) (fw d A.1 A.2 U) (fw d B.1 B.2 V) S d X)) (fun _ _ => rfl) ?_
  exact eR.callU (k' := 72) (as := [.ref 3]) (rest := []) (cx := 1) (fs := []) (h1 := (Gc L xs (A.1, 0) (B.1, 0) (fw d A.1 A.2 U) (fw d B.1 B.2 V) S d (X ++ [.inr (1, [])]))) rfl rfl rfl rfl (eg (Nat.le_of_ble_eq_true rfl) (show 20 ≤ lo by omega) (Nat.le_of_ble_eq_true rfl)) (c_reqNewT1 (U := (fw d A.1 A.2 U)) (show 101 ≤ lo - 20 by omega) hR hd h0 h1) (Gc_top ..) rfl rfl rfl
theorem c_renameT2 {cm sm fr lo L : Nat} {xs : Nat → Int32} {A B : gT} {U V : gU} {S : gS} {d : Nat → Nat} {X : mj_H} (hlo : 200 ≤ lo) (hR : gR cm sm L X) (hd : dk d) (ht : ∀ k, A.1 k < 65536) (hl : A.2 ≤ 40) (hn : ∀ k, U.2.2.2 k < 128) (ht2 : ∀ k, B.1 k < 65536) (hl2 : B.2 ≤ 40) (hn2 : ∀ k, V.2.2.2 k < 128) (h0 : d 11 ≠ 0) (h1 : (fw d A.1 A.2 U).1 ≠ 0) (h2 : (fw d B.1 B.2 V).2.2.1 = 0) : eE mm_P cm sm (fr + 9) lo 95 [.ref 3] (Gc L xs A B U V S d X) (.inr (23 + X.length), (Gc L xs (A.1, 0) (B.1, 0) (fw d A.1 A.2 U) (fw d B.1 B.2 V) S d (X ++ [.inr (1, [])]))) := by
  refine eE.of ?_
  refine eR.step 1 (F' := (1, [(0, .ref 3)], [.ref 3])) (h' := (Gc L xs A B U V S d X)) (fun _ _ => rfl) ?_
  have hk := fw_pk (t := A.1) (l := A.2) hd hn
  have hp : (fw d A.1 A.2 U).1 < 2 ^ 20 := Nat.lt_trans hk.1 (by decide)
  have hi : (fw d A.1 A.2 U).2.2.1 < 2 ^ 20 := Nat.lt_trans hk.2.2.1 (by decide)
  have hs : (fw d A.1 A.2 U).2.1 < 2 ^ 20 := Nat.lt_trans hk.2.1 (by decide)
  refine eR.call (k' := 64) (as := [.ref 3]) (rest := []) (v := none) (h1 := (Gc L xs (A.1, 0) B (fw d A.1 A.2 U) V S d X)) rfl rfl rfl rfl (eg (Nat.le_of_ble_eq_true rfl) (show 20 ≤ lo by omega) (Nat.le_of_ble_eq_true rfl)) (c_takePath_15 (show 112 ≤ lo - 20 by omega) hd ht hl hn) ?_
  refine eR.step 1 (F' := (5, [(0, .ref 3)], [.ref 3])) (h' := (Gc L xs (A.1, 0) B (fw d A.1 A.2 U) V S d X)) (fun _ _ => rfl) ?_
  have hk2 := fw_pk (t := B.1) (l := B.2) hd hn2
  have hp2 : (fw d B.1 B.2 V).1 < 2 ^ 20 := Nat.lt_trans hk2.1 (by decide)
  have hi2 : (fw d B.1 B.2 V).2.2.1 < 2 ^ 20 := Nat.lt_trans hk2.2.2.1 (by decide)
  have hs2 : (fw d B.1 B.2 V).2.1 < 2 ^ 20 := Nat.lt_trans hk2.2.1 (by decide)
  refine eR.call (k' := 83) (as := [.ref 3]) (rest := []) (v := none) (h1 := (Gc L xs (A.1, 0) (B.1, 0) (fw d A.1 A.2 U) (fw d B.1 B.2 V) S d X)) rfl rfl rfl rfl (eg (Nat.le_of_ble_eq_true rfl) (show 20 ≤ lo by omega) (Nat.le_of_ble_eq_true rfl)) (c_takePath_17 (show 112 ≤ lo - 20 by omega) hd ht2 hl2 hn2) ?_
  refine eR.step 1 (F' := (9, [(0, .ref 3)], [.ref 3])) (h' := (Gc L xs (A.1, 0) (B.1, 0) (fw d A.1 A.2 U) (fw d B.1 B.2 V) S d X)) (fun _ _ => rfl) ?_
  refine eR.call (k' := 72) (as := [.ref 3]) (rest := []) (v := none) (h1 := (Gc L xs (A.1, 0) (B.1, 0) (fw d A.1 A.2 U) (fw d B.1 B.2 V) S d X)) rfl rfl rfl rfl (eg (Nat.le_of_ble_eq_true rfl) (show 20 ≤ lo by omega) (Nat.le_of_ble_eq_true rfl)) (c_reqNew (U := (fw d A.1 A.2 U)) (show 41 ≤ lo - 20 by omega) hd h0 h1 hp) ?_
  refine eR.step 3 (F' := (17, [(0, .ref 3)], [.ref 21, .ref 3])) (h' := (Gc L xs (A.1, 0) (B.1, 0) (fw d A.1 A.2 U) (fw d B.1 B.2 V) S d X)) (fun _ _ => rfl) ?_
  exact eR.callU (k' := 85) (as := [.ref 3, .ref 21]) (rest := []) (cx := 1) (fs := []) (h1 := (Gc L xs (A.1, 0) (B.1, 0) (fw d A.1 A.2 U) (fw d B.1 B.2 V) S d (X ++ [.inr (1, [])]))) rfl rfl rfl rfl (eg (Nat.le_of_ble_eq_true rfl) (show 21 ≤ lo by omega) (Nat.le_of_ble_eq_true rfl)) (c_thing_21T1 (V := (fw d B.1 B.2 V)) (show 121 ≤ lo - 21 by omega) hR hd h0 h2) (Gc_top ..) rfl rfl rfl
theorem c_renameT3 {cm sm fr lo L : Nat} {xs : Nat → Int32} {A B : gT} {U V : gU} {S : gS} {d : Nat → Nat} {X : mj_H} (hlo : 200 ≤ lo) (hR : gR cm sm L X) (hd : dk d) (ht : ∀ k, A.1 k < 65536) (hl : A.2 ≤ 40) (hn : ∀ k, U.2.2.2 k < 128) (ht2 : ∀ k, B.1 k < 65536) (hl2 : B.2 ≤ 40) (hn2 : ∀ k, V.2.2.2 k < 128) (h0 : d 11 ≠ 0) (h1 : (fw d A.1 A.2 U).1 ≠ 0) (h2 : (fw d B.1 B.2 V).2.2.1 ≠ 0) (h3 : (fw d B.1 B.2 V).2.2.1 = 1) : eE mm_P cm sm (fr + 9) lo 95 [.ref 3] (Gc L xs A B U V S d X) (.inr (23 + X.length), (Gc L xs (A.1, 0) (B.1, 0) (fw d A.1 A.2 U) (fw d B.1 B.2 V) S d (X ++ [.inr (2, [])]))) := by
  refine eE.of ?_
  refine eR.step 1 (F' := (1, [(0, .ref 3)], [.ref 3])) (h' := (Gc L xs A B U V S d X)) (fun _ _ => rfl) ?_
  have hk := fw_pk (t := A.1) (l := A.2) hd hn
  have hp : (fw d A.1 A.2 U).1 < 2 ^ 20 := Nat.lt_trans hk.1 (by decide)
  have hi : (fw d A.1 A.2 U).2.2.1 < 2 ^ 20 := Nat.lt_trans hk.2.2.1 (by decide)
  have hs : (fw d A.1 A.2 U).2.1 < 2 ^ 20 := Nat.lt_trans hk.2.1 (by decide)
  refine eR.call (k' := 64) (as := [.ref 3]) (rest := []) (v := none) (h1 := (Gc L xs (A.1, 0) B (fw d A.1 A.2 U) V S d X)) rfl rfl rfl rfl (eg (Nat.le_of_ble_eq_true rfl) (show 20 ≤ lo by omega) (Nat.le_of_ble_eq_true rfl)) (c_takePath_15 (show 112 ≤ lo - 20 by omega) hd ht hl hn) ?_
  refine eR.step 1 (F' := (5, [(0, .ref 3)], [.ref 3])) (h' := (Gc L xs (A.1, 0) B (fw d A.1 A.2 U) V S d X)) (fun _ _ => rfl) ?_
  have hk2 := fw_pk (t := B.1) (l := B.2) hd hn2
  have hp2 : (fw d B.1 B.2 V).1 < 2 ^ 20 := Nat.lt_trans hk2.1 (by decide)
  have hi2 : (fw d B.1 B.2 V).2.2.1 < 2 ^ 20 := Nat.lt_trans hk2.2.2.1 (by decide)
  have hs2 : (fw d B.1 B.2 V).2.1 < 2 ^ 20 := Nat.lt_trans hk2.2.1 (by decide)
  refine eR.call (k' := 83) (as := [.ref 3]) (rest := []) (v := none) (h1 := (Gc L xs (A.1, 0) (B.1, 0) (fw d A.1 A.2 U) (fw d B.1 B.2 V) S d X)) rfl rfl rfl rfl (eg (Nat.le_of_ble_eq_true rfl) (show 20 ≤ lo by omega) (Nat.le_of_ble_eq_true rfl)) (c_takePath_17 (show 112 ≤ lo - 20 by omega) hd ht2 hl2 hn2) ?_
  refine eR.step 1 (F' := (9, [(0, .ref 3)], [.ref 3])) (h' := (Gc L xs (A.1, 0) (B.1, 0) (fw d A.1 A.2 U) (fw d B.1 B.2 V) S d X)) (fun _ _ => rfl) ?_
  refine eR.call (k' := 72) (as := [.ref 3]) (rest := []) (v := none) (h1 := (Gc L xs (A.1, 0) (B.1, 0) (fw d A.1 A.2 U) (fw d B.1 B.2 V) S d X)) rfl rfl rfl rfl (eg (Nat.le_of_ble_eq_true rfl) (show 20 ≤ lo by omega) (Nat.le_of_ble_eq_true rfl)) (c_reqNew (U := (fw d A.1 A.2 U)) (show 41 ≤ lo - 20 by omega) hd h0 h1 hp) ?_
  refine eR.step 3 (F' := (17, [(0, .ref 3)], [.ref 21, .ref 3])) (h' := (Gc L xs (A.1, 0) (B.1, 0) (fw d A.1 A.2 U) (fw d B.1 B.2 V) S d X)) (fun _ _ => rfl) ?_
  refine eR.call (k' := 85) (as := [.ref 3, .ref 21]) (rest := []) (v := some (.int (nI ((fw d B.1 B.2 V).2.2.1)))) (h1 := (Gc L xs (A.1, 0) (B.1, 0) (fw d A.1 A.2 U) (fw d B.1 B.2 V) S d X)) rfl rfl rfl rfl (eg (Nat.le_of_ble_eq_true rfl) (show 21 ≤ lo by omega) (Nat.le_of_ble_eq_true rfl)) (c_thing_21 (V := (fw d B.1 B.2 V)) (show 41 ≤ lo - 21 by omega) hd h0 hi2 h2) ?_
  refine eR.step 3 (F' := (23, [(0, .ref 3), (1, .int (nI ((fw d B.1 B.2 V).2.2.1)))], [.int (nI 1), .int (nI ((fw d B.1 B.2 V).2.2.1))])) (h' := (Gc L xs (A.1, 0) (B.1, 0) (fw d A.1 A.2 U) (fw d B.1 B.2 V) S d X)) (fun _ _ => rfl) ?_
  refine eR.icmp rfl false ((nc_ne (by omega) (by omega)).trans (decide_eq_false (by omega))) ?_
  exact thrH (cx := 2) rfl rfl rfl rfl rfl rfl rfl (by omega) (by omega) hR
theorem c_renameT4 {cm sm fr lo L : Nat} {xs : Nat → Int32} {A B : gT} {U V : gU} {S : gS} {d : Nat → Nat} {X : mj_H} (hlo : 200 ≤ lo) (hR : gR cm sm L X) (hd : dk d) (ht : ∀ k, A.1 k < 65536) (hl : A.2 ≤ 40) (hn : ∀ k, U.2.2.2 k < 128) (ht2 : ∀ k, B.1 k < 65536) (hl2 : B.2 ≤ 40) (hn2 : ∀ k, V.2.2.2 k < 128) (h0 : d 11 ≠ 0) (h1 : (fw d A.1 A.2 U).1 ≠ 0) (h2 : (fw d B.1 B.2 V).2.2.1 ≠ 0) (h3 : (fw d B.1 B.2 V).2.2.1 ≠ 1) (h4 : d (32 + (16 * (fw d B.1 B.2 V).2.2.1)) = 2) (h5 : up d (fw d B.1 B.2 V).2.2.1 (fw d A.1 A.2 U).1 16 = true) : eE mm_P cm sm (fr + 9) lo 95 [.ref 3] (Gc L xs A B U V S d X) (.inr (23 + X.length), (Gc L xs (A.1, 0) (B.1, 0) (fw d A.1 A.2 U) (fw d B.1 B.2 V) S d (X ++ [.inr (3, [])]))) := by
  refine eE.of ?_
  refine eR.step 1 (F' := (1, [(0, .ref 3)], [.ref 3])) (h' := (Gc L xs A B U V S d X)) (fun _ _ => rfl) ?_
  have hk := fw_pk (t := A.1) (l := A.2) hd hn
  have hp : (fw d A.1 A.2 U).1 < 2 ^ 20 := Nat.lt_trans hk.1 (by decide)
  have hi : (fw d A.1 A.2 U).2.2.1 < 2 ^ 20 := Nat.lt_trans hk.2.2.1 (by decide)
  have hs : (fw d A.1 A.2 U).2.1 < 2 ^ 20 := Nat.lt_trans hk.2.1 (by decide)
  refine eR.call (k' := 64) (as := [.ref 3]) (rest := []) (v := none) (h1 := (Gc L xs (A.1, 0) B (fw d A.1 A.2 U) V S d X)) rfl rfl rfl rfl (eg (Nat.le_of_ble_eq_true rfl) (show 20 ≤ lo by omega) (Nat.le_of_ble_eq_true rfl)) (c_takePath_15 (show 112 ≤ lo - 20 by omega) hd ht hl hn) ?_
  refine eR.step 1 (F' := (5, [(0, .ref 3)], [.ref 3])) (h' := (Gc L xs (A.1, 0) B (fw d A.1 A.2 U) V S d X)) (fun _ _ => rfl) ?_
  have hk2 := fw_pk (t := B.1) (l := B.2) hd hn2
  have hp2 : (fw d B.1 B.2 V).1 < 2 ^ 20 := Nat.lt_trans hk2.1 (by decide)
  have hi2 : (fw d B.1 B.2 V).2.2.1 < 2 ^ 20 := Nat.lt_trans hk2.2.2.1 (by decide)
  have hs2 : (fw d B.1 B.2 V).2.1 < 2 ^ 20 := Nat.lt_trans hk2.2.1 (by decide)
  refine eR.call (k' := 83) (as := [.ref 3]) (rest := []) (v := none) (h1 := (Gc L xs (A.1, 0) (B.1, 0) (fw d A.1 A.2 U) (fw d B.1 B.2 V) S d X)) rfl rfl rfl rfl (eg (Nat.le_of_ble_eq_true rfl) (show 20 ≤ lo by omega) (Nat.le_of_ble_eq_true rfl)) (c_takePath_17 (show 112 ≤ lo - 20 by omega) hd ht2 hl2 hn2) ?_
  refine eR.step 1 (F' := (9, [(0, .ref 3)], [.ref 3])) (h' := (Gc L xs (A.1, 0) (B.1, 0) (fw d A.1 A.2 U) (fw d B.1 B.2 V) S d X)) (fun _ _ => rfl) ?_
  refine eR.call (k' := 72) (as := [.ref 3]) (rest := []) (v := none) (h1 := (Gc L xs (A.1, 0) (B.1, 0) (fw d A.1 A.2 U) (fw d B.1 B.2 V) S d X)) rfl rfl rfl rfl (eg (Nat.le_of_ble_eq_true rfl) (show 20 ≤ lo by omega) (Nat.le_of_ble_eq_true rfl)) (c_reqNew (U := (fw d A.1 A.2 U)) (show 41 ≤ lo - 20 by omega) hd h0 h1 hp) ?_
  refine eR.step 3 (F' := (17, [(0, .ref 3)], [.ref 21, .ref 3])) (h' := (Gc L xs (A.1, 0) (B.1, 0) (fw d A.1 A.2 U) (fw d B.1 B.2 V) S d X)) (fun _ _ => rfl) ?_
  refine eR.call (k' := 85) (as := [.ref 3, .ref 21]) (rest := []) (v := some (.int (nI ((fw d B.1 B.2 V).2.2.1)))) (h1 := (Gc L xs (A.1, 0) (B.1, 0) (fw d A.1 A.2 U) (fw d B.1 B.2 V) S d X)) rfl rfl rfl rfl (eg (Nat.le_of_ble_eq_true rfl) (show 21 ≤ lo by omega) (Nat.le_of_ble_eq_true rfl)) (c_thing_21 (V := (fw d B.1 B.2 V)) (show 41 ≤ lo - 21 by omega) hd h0 hi2 h2) ?_
  refine eR.step 3 (F' := (23, [(0, .ref 3), (1, .int (nI ((fw d B.1 B.2 V).2.2.1)))], [.int (nI 1), .int (nI ((fw d B.1 B.2 V).2.2.1))])) (h' := (Gc L xs (A.1, 0) (B.1, 0) (fw d A.1 A.2 U) (fw d B.1 B.2 V) S d X)) (fun _ _ => rfl) ?_
  refine eR.icmp rfl true ((nc_ne (by omega) (by omega)).trans (decide_eq_true (by omega))) ?_
  refine eR.step 3 (F' := (41, [(0, .ref 3), (1, .int (nI ((fw d B.1 B.2 V).2.2.1)))], [.int (nI ((fw d B.1 B.2 V).2.2.1)), .ref 8])) (h' := (Gc L xs (A.1, 0) (B.1, 0) (fw d A.1 A.2 U) (fw d B.1 B.2 V) S d X)) (fun _ _ => rfl) ?_
  have h6 := hd.1 (32 + (16 * (fw d B.1 B.2 V).2.2.1))
  refine eR.call (k' := 41) (as := [.ref 8, .int (nI ((fw d B.1 B.2 V).2.2.1))]) (rest := []) (v := some (.int (nI (d (32 + (16 * (fw d B.1 B.2 V).2.2.1)))))) (h1 := (Gc L xs (A.1, 0) (B.1, 0) (fw d A.1 A.2 U) (fw d B.1 B.2 V) S d X)) rfl rfl rfl rfl (eg (Nat.le_of_ble_eq_true rfl) (show 21 ≤ lo by omega) (Nat.le_of_ble_eq_true rfl)) (c_kind (show 21 ≤ lo - 21 by omega) hd hi2) ?_
  refine eR.step 1 (F' := (45, [(0, .ref 3), (1, .int (nI ((fw d B.1 B.2 V).2.2.1)))], [.int (nI 2), .int (nI (d (32 + (16 * (fw d B.1 B.2 V).2.2.1))))])) (h' := (Gc L xs (A.1, 0) (B.1, 0) (fw d A.1 A.2 U) (fw d B.1 B.2 V) S d X)) (fun _ _ => rfl) ?_
  refine eR.icmp rfl false ((nc_ne (by omega) (by omega)).trans (decide_eq_false (by omega))) ?_
  refine eR.step 4 (F' := (55, [(0, .ref 3), (1, .int (nI ((fw d B.1 B.2 V).2.2.1))), (2, .int (nI 1))], [.int (nI 1)])) (h' := (Gc L xs (A.1, 0) (B.1, 0) (fw d A.1 A.2 U) (fw d B.1 B.2 V) S d X)) (fun _ _ => rfl) ?_
  refine eR.ifc rfl false rfl ?_
  refine eR.step 6 (F' := (70, [(0, .ref 3), (1, .int (nI ((fw d B.1 B.2 V).2.2.1))), (2, .int (nI 1))], [.int (nI ((fw d B.1 B.2 V).2.2.1)), .int (nI ((fw d A.1 A.2 U).1)), .ref 9])) (h' := (Gc L xs (A.1, 0) (B.1, 0) (fw d A.1 A.2 U) (fw d B.1 B.2 V) S d X)) (fun _ _ => rfl) ?_
  refine eR.call (k' := 96) (as := [.ref 9, .int (nI ((fw d A.1 A.2 U).1)), .int (nI ((fw d B.1 B.2 V).2.2.1))]) (rest := []) (v := some (.int (nI (bi (up d (fw d B.1 B.2 V).2.2.1 (fw d A.1 A.2 U).1 16))))) (h1 := (Gc L xs (A.1, 0) (B.1, 0) (fw d A.1 A.2 U) (fw d B.1 B.2 V) S d X)) rfl rfl rfl rfl (eg (Nat.le_of_ble_eq_true rfl) (show 24 ≤ lo by omega) (Nat.le_of_ble_eq_true rfl)) (c_lies (show 66 ≤ lo - 24 by omega) hd hp hi2) ?_
  rw [bj_t h5]
  refine eR.ifc rfl false rfl ?_
  exact thrH (cx := 3) rfl rfl rfl rfl rfl rfl rfl (by omega) (by omega) hR
theorem c_renameT5D {cm sm fr lo L : Nat} {xs : Nat → Int32} {A B : gT} {U V : gU} {S : gS} {d : Nat → Nat} {X : mj_H} (hlo : 200 ≤ lo) (hR : gR cm sm L X) (hd : dk d) (ht : ∀ k, A.1 k < 65536) (hl : A.2 ≤ 40) (hn : ∀ k, U.2.2.2 k < 128) (ht2 : ∀ k, B.1 k < 65536) (hl2 : B.2 ≤ 40) (hn2 : ∀ k, V.2.2.2 k < 128) (h0 : d 11 ≠ 0) (h1 : (fw d A.1 A.2 U).1 ≠ 0) (h2 : (fw d B.1 B.2 V).2.2.1 ≠ 0) (h3 : (fw d B.1 B.2 V).2.2.1 ≠ 1) (h4 : d (32 + (16 * (fw d B.1 B.2 V).2.2.1)) = 2) (h5 : ¬ up d (fw d B.1 B.2 V).2.2.1 (fw d A.1 A.2 U).1 16 = true) (h7 : (fw d A.1 A.2 U).2.2.1 ≠ 0) : eE mm_P cm sm (fr + 9) lo 95 [.ref 3] (Gc L xs A B U V S d X) (.inr (23 + X.length), (Gc L xs (A.1, 0) (B.1, 0) (fw d A.1 A.2 U) (fw d B.1 B.2 V) S d (X ++ [.inr (0, [])]))) := by
  refine eE.of ?_
  refine eR.step 1 (F' := (1, [(0, .ref 3)], [.ref 3])) (h' := (Gc L xs A B U V S d X)) (fun _ _ => rfl) ?_
  have hk := fw_pk (t := A.1) (l := A.2) hd hn
  have hp : (fw d A.1 A.2 U).1 < 2 ^ 20 := Nat.lt_trans hk.1 (by decide)
  have hi : (fw d A.1 A.2 U).2.2.1 < 2 ^ 20 := Nat.lt_trans hk.2.2.1 (by decide)
  have hs : (fw d A.1 A.2 U).2.1 < 2 ^ 20 := Nat.lt_trans hk.2.1 (by decide)
  refine eR.call (k' := 64) (as := [.ref 3]) (rest := []) (v := none) (h1 := (Gc L xs (A.1, 0) B (fw d A.1 A.2 U) V S d X)) rfl rfl rfl rfl (eg (Nat.le_of_ble_eq_true rfl) (show 20 ≤ lo by omega) (Nat.le_of_ble_eq_true rfl)) (c_takePath_15 (show 112 ≤ lo - 20 by omega) hd ht hl hn) ?_
  refine eR.step 1 (F' := (5, [(0, .ref 3)], [.ref 3])) (h' := (Gc L xs (A.1, 0) B (fw d A.1 A.2 U) V S d X)) (fun _ _ => rfl) ?_
  have hk2 := fw_pk (t := B.1) (l := B.2) hd hn2
  have hp2 : (fw d B.1 B.2 V).1 < 2 ^ 20 := Nat.lt_trans hk2.1 (by decide)
  have hi2 : (fw d B.1 B.2 V).2.2.1 < 2 ^ 20 := Nat.lt_trans hk2.2.2.1 (by decide)
  have hs2 : (fw d B.1 B.2 V).2.1 < 2 ^ 20 := Nat.lt_trans hk2.2.1 (by decide)
  refine eR.call (k' := 83) (as := [.ref 3]) (rest := []) (v := none) (h1 := (Gc L xs (A.1, 0) (B.1, 0) (fw d A.1 A.2 U) (fw d B.1 B.2 V) S d X)) rfl rfl rfl rfl (eg (Nat.le_of_ble_eq_true rfl) (show 20 ≤ lo by omega) (Nat.le_of_ble_eq_true rfl)) (c_takePath_17 (show 112 ≤ lo - 20 by omega) hd ht2 hl2 hn2) ?_
  refine eR.step 1 (F' := (9, [(0, .ref 3)], [.ref 3])) (h' := (Gc L xs (A.1, 0) (B.1, 0) (fw d A.1 A.2 U) (fw d B.1 B.2 V) S d X)) (fun _ _ => rfl) ?_
  refine eR.call (k' := 72) (as := [.ref 3]) (rest := []) (v := none) (h1 := (Gc L xs (A.1, 0) (B.1, 0) (fw d A.1 A.2 U) (fw d B.1 B.2 V) S d X)) rfl rfl rfl rfl (eg (Nat.le_of_ble_eq_true rfl) (show 20 ≤ lo by omega) (Nat.le_of_ble_eq_true rfl)) (c_reqNew (U := (fw d A.1 A.2 U)) (show 41 ≤ lo - 20 by omega) hd h0 h1 hp) ?_
  refine eR.step 3 (F' := (17, [(0, .ref 3)], [.ref 21, .ref 3])) (h' := (Gc L xs (A.1, 0) (B.1, 0) (fw d A.1 A.2 U) (fw d B.1 B.2 V) S d X)) (fun _ _ => rfl) ?_
  refine eR.call (k' := 85) (as := [.ref 3, .ref 21]) (rest := []) (v := some (.int (nI ((fw d B.1 B.2 V).2.2.1)))) (h1 := (Gc L xs (A.1, 0) (B.1, 0) (fw d A.1 A.2 U) (fw d B.1 B.2 V) S d X)) rfl rfl rfl rfl (eg (Nat.le_of_ble_eq_true rfl) (show 21 ≤ lo by omega) (Nat.le_of_ble_eq_true rfl)) (c_thing_21 (V := (fw d B.1 B.2 V)) (show 41 ≤ lo - 21 by omega) hd h0 hi2 h2) ?_
  refine eR.step 3 (F' := (23, [(0, .ref 3), (1, .int (nI ((fw d B.1 B.2 V).2.2.1)))], [.int (nI 1), .int (nI ((fw d B.1 B.2 V).2.2.1))])) (h' := (Gc L xs (A.1, 0) (B.1, 0) (fw d A.1 A.2 U) (fw d B.1 B.2 V) S d X)) (fun _ _ => rfl) ?_
  refine eR.icmp rfl true ((nc_ne (by omega) (by omega)).trans (decide_eq_true (by omega))) ?_
  refine eR.step 3 (F' := (41, [(0, .ref 3), (1, .int (nI ((fw d B.1 B.2 V).2.2.1)))], [.int (nI ((fw d B.1 B.2 V).2.2.1)), .ref 8])) (h' := (Gc L xs (A.1, 0) (B.1, 0) (fw d A.1 A.2 U) (fw d B.1 B.2 V) S d X)) (fun _ _ => rfl) ?_
  have h6 := hd.1 (32 + (16 * (fw d B.1 B.2 V).2.2.1))
  refine eR.call (k' := 41) (as := [.ref 8, .int (nI ((fw d B.1 B.2 V).2.2.1))]) (rest := []) (v := some (.int (nI (d (32 + (16 * (fw d B.1 B.2 V).2.2.1)))))) (h1 := (Gc L xs (A.1, 0) (B.1, 0) (fw d A.1 A.2 U) (fw d B.1 B.2 V) S d X)) rfl rfl rfl rfl (eg (Nat.le_of_ble_eq_true rfl) (show 21 ≤ lo by omega) (Nat.le_of_ble_eq_true rfl)) (c_kind (show 21 ≤ lo - 21 by omega) hd hi2) ?_
  refine eR.step 1 (F' := (45, [(0, .ref 3), (1, .int (nI ((fw d B.1 B.2 V).2.2.1)))], [.int (nI 2), .int (nI (d (32 + (16 * (fw d B.1 B.2 V).2.2.1))))])) (h' := (Gc L xs (A.1, 0) (B.1, 0) (fw d A.1 A.2 U) (fw d B.1 B.2 V) S d X)) (fun _ _ => rfl) ?_
  refine eR.icmp rfl false ((nc_ne (by omega) (by omega)).trans (decide_eq_false (by omega))) ?_
  refine eR.step 4 (F' := (55, [(0, .ref 3), (1, .int (nI ((fw d B.1 B.2 V).2.2.1))), (2, .int (nI 1))], [.int (nI 1)])) (h' := (Gc L xs (A.1, 0) (B.1, 0) (fw d A.1 A.2 U) (fw d B.1 B.2 V) S d X)) (fun _ _ => rfl) ?_
  refine eR.ifc rfl false rfl ?_
  refine eR.step 6 (F' := (70, [(0, .ref 3), (1, .int (nI ((fw d B.1 B.2 V).2.2.1))), (2, .int (nI 1))], [.int (nI ((fw d B.1 B.2 V).2.2.1)), .int (nI ((fw d A.1 A.2 U).1)), .ref 9])) (h' := (Gc L xs (A.1, 0) (B.1, 0) (fw d A.1 A.2 U) (fw d B.1 B.2 V) S d X)) (fun _ _ => rfl) ?_
  refine eR.call (k' := 96) (as := [.ref 9, .int (nI ((fw d A.1 A.2 U).1)), .int (nI ((fw d B.1 B.2 V).2.2.1))]) (rest := []) (v := some (.int (nI (bi (up d (fw d B.1 B.2 V).2.2.1 (fw d A.1 A.2 U).1 16))))) (h1 := (Gc L xs (A.1, 0) (B.1, 0) (fw d A.1 A.2 U) (fw d B.1 B.2 V) S d X)) rfl rfl rfl rfl (eg (Nat.le_of_ble_eq_true rfl) (show 24 ≤ lo by omega) (Nat.le_of_ble_eq_true rfl)) (c_lies (show 66 ≤ lo - 24 by omega) hd hp hi2) ?_
  rw [bj_f h5]
  refine eR.ifc rfl true rfl ?_
  refine eR.step 2 (F' := (88, [(0, .ref 3), (1, .int (nI ((fw d B.1 B.2 V).2.2.1))), (2, .int (nI 1))], [.int (nI 0), .ref 3])) (h' := (Gc L xs (A.1, 0) (B.1, 0) (fw d A.1 A.2 U) (fw d B.1 B.2 V) S d X)) (fun _ _ => rfl) ?_
  exact eR.callU (k' := 75) (as := [.ref 3, .int (nI 0)]) (rest := []) (cx := 0) (fs := []) (h1 := (Gc L xs (A.1, 0) (B.1, 0) (fw d A.1 A.2 U) (fw d B.1 B.2 V) S d (X ++ [.inr (0, [])]))) rfl rfl rfl rfl (eg (Nat.le_of_ble_eq_true rfl) (show 21 ≤ lo by omega) (Nat.le_of_ble_eq_true rfl)) (c_reqSlotT1 (U := (fw d A.1 A.2 U)) (show 115 ≤ lo - 21 by omega) hR h7 hi) (Gc_top ..) rfl rfl rfl
theorem c_renameT6D {cm sm fr lo L : Nat} {xs : Nat → Int32} {A B : gT} {U V : gU} {S : gS} {d : Nat → Nat} {X : mj_H} (hlo : 200 ≤ lo) (hR : gR cm sm L X) (hd : dk d) (ht : ∀ k, A.1 k < 65536) (hl : A.2 ≤ 40) (hn : ∀ k, U.2.2.2 k < 128) (ht2 : ∀ k, B.1 k < 65536) (hl2 : B.2 ≤ 40) (hn2 : ∀ k, V.2.2.2 k < 128) (h0 : d 11 ≠ 0) (h1 : (fw d A.1 A.2 U).1 ≠ 0) (h2 : (fw d B.1 B.2 V).2.2.1 ≠ 0) (h3 : (fw d B.1 B.2 V).2.2.1 ≠ 1) (h4 : d (32 + (16 * (fw d B.1 B.2 V).2.2.1)) = 2) (h5 : ¬ up d (fw d B.1 B.2 V).2.2.1 (fw d A.1 A.2 U).1 16 = true) (h7 : (fw d A.1 A.2 U).2.2.1 = 0) (h8 : ¬ hr d (fw d A.1 A.2 U).1 0 = true) : eE mm_P cm sm (fr + 9) lo 95 [.ref 3] (Gc L xs A B U V S d X) (.inr (23 + X.length), (Gc L xs (A.1, 0) (B.1, 0) (fw d A.1 A.2 U) (fw d B.1 B.2 V) S d (X ++ [.inr (0, [])]))) := by
  refine eE.of ?_
  refine eR.step 1 (F' := (1, [(0, .ref 3)], [.ref 3])) (h' := (Gc L xs A B U V S d X)) (fun _ _ => rfl) ?_
  have hk := fw_pk (t := A.1) (l := A.2) hd hn
  have hp : (fw d A.1 A.2 U).1 < 2 ^ 20 := Nat.lt_trans hk.1 (by decide)
  have hi : (fw d A.1 A.2 U).2.2.1 < 2 ^ 20 := Nat.lt_trans hk.2.2.1 (by decide)
  have hs : (fw d A.1 A.2 U).2.1 < 2 ^ 20 := Nat.lt_trans hk.2.1 (by decide)
  refine eR.call (k' := 64) (as := [.ref 3]) (rest := []) (v := none) (h1 := (Gc L xs (A.1, 0) B (fw d A.1 A.2 U) V S d X)) rfl rfl rfl rfl (eg (Nat.le_of_ble_eq_true rfl) (show 20 ≤ lo by omega) (Nat.le_of_ble_eq_true rfl)) (c_takePath_15 (show 112 ≤ lo - 20 by omega) hd ht hl hn) ?_
  refine eR.step 1 (F' := (5, [(0, .ref 3)], [.ref 3])) (h' := (Gc L xs (A.1, 0) B (fw d A.1 A.2 U) V S d X)) (fun _ _ => rfl) ?_
  have hk2 := fw_pk (t := B.1) (l := B.2) hd hn2
  have hp2 : (fw d B.1 B.2 V).1 < 2 ^ 20 := Nat.lt_trans hk2.1 (by decide)
  have hi2 : (fw d B.1 B.2 V).2.2.1 < 2 ^ 20 := Nat.lt_trans hk2.2.2.1 (by decide)
  have hs2 : (fw d B.1 B.2 V).2.1 < 2 ^ 20 := Nat.lt_trans hk2.2.1 (by decide)
  refine eR.call (k' := 83) (as := [.ref 3]) (rest := []) (v := none) (h1 := (Gc L xs (A.1, 0) (B.1, 0) (fw d A.1 A.2 U) (fw d B.1 B.2 V) S d X)) rfl rfl rfl rfl (eg (Nat.le_of_ble_eq_true rfl) (show 20 ≤ lo by omega) (Nat.le_of_ble_eq_true rfl)) (c_takePath_17 (show 112 ≤ lo - 20 by omega) hd ht2 hl2 hn2) ?_
  refine eR.step 1 (F' := (9, [(0, .ref 3)], [.ref 3])) (h' := (Gc L xs (A.1, 0) (B.1, 0) (fw d A.1 A.2 U) (fw d B.1 B.2 V) S d X)) (fun _ _ => rfl) ?_
  refine eR.call (k' := 72) (as := [.ref 3]) (rest := []) (v := none) (h1 := (Gc L xs (A.1, 0) (B.1, 0) (fw d A.1 A.2 U) (fw d B.1 B.2 V) S d X)) rfl rfl rfl rfl (eg (Nat.le_of_ble_eq_true rfl) (show 20 ≤ lo by omega) (Nat.le_of_ble_eq_true rfl)) (c_reqNew (U := (fw d A.1 A.2 U)) (show 41 ≤ lo - 20 by omega) hd h0 h1 hp) ?_
  refine eR.step 3 (F' := (17, [(0, .ref 3)], [.ref 21, .ref 3])) (h' := (Gc L xs (A.1, 0) (B.1, 0) (fw d A.1 A.2 U) (fw d B.1 B.2 V) S d X)) (fun _ _ => rfl) ?_
  refine eR.call (k' := 85) (as := [.ref 3, .ref 21]) (rest := []) (v := some (.int (nI ((fw d B.1 B.2 V).2.2.1)))) (h1 := (Gc L xs (A.1, 0) (B.1, 0) (fw d A.1 A.2 U) (fw d B.1 B.2 V) S d X)) rfl rfl rfl rfl (eg (Nat.le_of_ble_eq_true rfl) (show 21 ≤ lo by omega) (Nat.le_of_ble_eq_true rfl)) (c_thing_21 (V := (fw d B.1 B.2 V)) (show 41 ≤ lo - 21 by omega) hd h0 hi2 h2) ?_
  refine eR.step 3 (F' := (23, [(0, .ref 3), (1, .int (nI ((fw d B.1 B.2 V).2.2.1)))], [.int (nI 1), .int (nI ((fw d B.1 B.2 V).2.2.1))])) (h' := (Gc L xs (A.1, 0) (B.1, 0) (fw d A.1 A.2 U) (fw d B.1 B.2 V) S d X)) (fun _ _ => rfl) ?_
  refine eR.icmp rfl true ((nc_ne (by omega) (by omega)).trans (decide_eq_true (by omega))) ?_
  refine eR.step 3 (F' := (41, [(0, .ref 3), (1, .int (nI ((fw d B.1 B.2 V).2.2.1)))], [.int (nI ((fw d B.1 B.2 V).2.2.1)), .ref 8])) (h' := (Gc L xs (A.1, 0) (B.1, 0) (fw d A.1 A.2 U) (fw d B.1 B.2 V) S d X)) (fun _ _ => rfl) ?_
  have h6 := hd.1 (32 + (16 * (fw d B.1 B.2 V).2.2.1))
  refine eR.call (k' := 41) (as := [.ref 8, .int (nI ((fw d B.1 B.2 V).2.2.1))]) (rest := []) (v := some (.int (nI (d (32 + (16 * (fw d B.1 B.2 V).2.2.1)))))) (h1 := (Gc L xs (A.1, 0) (B.1, 0) (fw d A.1 A.2 U) (fw d B.1 B.2 V) S d X)) rfl rfl rfl rfl (eg (Nat.le_of_ble_eq_true rfl) (show 21 ≤ lo by omega) (Nat.le_of_ble_eq_true rfl)) (c_kind (show 21 ≤ lo - 21 by omega) hd hi2) ?_
  refine eR.step 1 (F' := (45, [(0, .ref 3), (1, .int (nI ((fw d B.1 B.2 V).2.2.1)))], [.int (nI 2), .int (nI (d (32 + (16 * (fw d B.1 B.2 V).2.2.1))))])) (h' := (Gc L xs (A.1, 0) (B.1, 0) (fw d A.1 A.2 U) (fw d B.1 B.2 V) S d X)) (fun _ _ => rfl) ?_
  refine eR.icmp rfl false ((nc_ne (by omega) (by omega)).trans (decide_eq_false (by omega))) ?_
  refine eR.step 4 (F' := (55, [(0, .ref 3), (1, .int (nI ((fw d B.1 B.2 V).2.2.1))), (2, .int (nI 1))], [.int (nI 1)])) (h' := (Gc L xs (A.1, 0) (B.1, 0) (fw d A.1 A.2 U) (fw d B.1 B.2 V) S d X)) (fun _ _ => rfl) ?_
  refine eR.ifc rfl false rfl ?_
  refine eR.step 6 (F' := (70, [(0, .ref 3), (1, .int (nI ((fw d B.1 B.2 V).2.2.1))), (2, .int (nI 1))], [.int (nI ((fw d B.1 B.2 V).2.2.1)), .int (nI ((fw d A.1 A.2 U).1)), .ref 9])) (h' := (Gc L xs (A.1, 0) (B.1, 0) (fw d A.1 A.2 U) (fw d B.1 B.2 V) S d X)) (fun _ _ => rfl) ?_
  refine eR.call (k' := 96) (as := [.ref 9, .int (nI ((fw d A.1 A.2 U).1)), .int (nI ((fw d B.1 B.2 V).2.2.1))]) (rest := []) (v := some (.int (nI (bi (up d (fw d B.1 B.2 V).2.2.1 (fw d A.1 A.2 U).1 16))))) (h1 := (Gc L xs (A.1, 0) (B.1, 0) (fw d A.1 A.2 U) (fw d B.1 B.2 V) S d X)) rfl rfl rfl rfl (eg (Nat.le_of_ble_eq_true rfl) (show 24 ≤ lo by omega) (Nat.le_of_ble_eq_true rfl)) (c_lies (show 66 ≤ lo - 24 by omega) hd hp hi2) ?_
  rw [bj_f h5]
  refine eR.ifc rfl true rfl ?_
  refine eR.step 2 (F' := (88, [(0, .ref 3), (1, .int (nI ((fw d B.1 B.2 V).2.2.1))), (2, .int (nI 1))], [.int (nI 0), .ref 3])) (h' := (Gc L xs (A.1, 0) (B.1, 0) (fw d A.1 A.2 U) (fw d B.1 B.2 V) S d X)) (fun _ _ => rfl) ?_
  exact eR.callU (k' := 75) (as := [.ref 3, .int (nI 0)]) (rest := []) (cx := 0) (fs := []) (h1 := (Gc L xs (A.1, 0) (B.1, 0) (fw d A.1 A.2 U) (fw d B.1 B.2 V) S d (X ++ [.inr (0, [])]))) rfl rfl rfl rfl (eg (Nat.le_of_ble_eq_true rfl) (show 21 ≤ lo by omega) (Nat.le_of_ble_eq_true rfl)) (c_reqSlotT2 (U := (fw d A.1 A.2 U)) (show 115 ≤ lo - 21 by omega) hR hd hp (by decide) h7 h8) (Gc_top ..) rfl rfl rfl
theorem c_renameD {cm sm fr lo L : Nat} {xs : Nat → Int32} {A B : gT} {U V : gU} {S : gS} {d : Nat → Nat} {X : mj_H} (hlo : 136 ≤ lo) (hd : dk d) (ht : ∀ k, A.1 k < 65536) (hl : A.2 ≤ 40) (hn : ∀ k, U.2.2.2 k < 128) (ht2 : ∀ k, B.1 k < 65536) (hl2 : B.2 ≤ 40) (hn2 : ∀ k, V.2.2.2 k < 128) (h0 : d 11 ≠ 0) (h1 : (fw d A.1 A.2 U).1 ≠ 0) (h2 : (fw d B.1 B.2 V).2.2.1 ≠ 0) (h3 : (fw d B.1 B.2 V).2.2.1 ≠ 1) (h4 : d (32 + (16 * (fw d B.1 B.2 V).2.2.1)) = 2) (h5 : ¬ up d (fw d B.1 B.2 V).2.2.1 (fw d A.1 A.2 U).1 16 = true) (h7 : (fw d A.1 A.2 U).2.2.1 = 0) (h8 : hr d (fw d A.1 A.2 U).1 0 = true) : eE mm_P cm sm (fr + 8) lo 95 [.ref 3] (Gc L xs A B U V S d X) (.inl (some (.int (nI ((fw d B.1 B.2 V).2.2.1)))), (Gc L xs (A.1, 0) (B.1, 0) (fw d A.1 A.2 U) (fw d B.1 B.2 V) S (pu (fr_ (ad d (fw d A.1 A.2 U).1 (fw d B.1 B.2 V).2.2.1 (fw d A.1 A.2 U).2.2.2) (fw d B.1 B.2 V).1 (fw d B.1 B.2 V).2.1) (fw d B.1 B.2 V).2.2.1 (fw d A.1 A.2 U).1) X)) := by
  refine eE.of ?_
  refine eR.step 1 (F' := (1, [(0, .ref 3)], [.ref 3])) (h' := (Gc L xs A B U V S d X)) (fun _ _ => rfl) ?_
  have hk := fw_pk (t := A.1) (l := A.2) hd hn
  have hp : (fw d A.1 A.2 U).1 < 2 ^ 20 := Nat.lt_trans hk.1 (by decide)
  have hi : (fw d A.1 A.2 U).2.2.1 < 2 ^ 20 := Nat.lt_trans hk.2.2.1 (by decide)
  have hs : (fw d A.1 A.2 U).2.1 < 2 ^ 20 := Nat.lt_trans hk.2.1 (by decide)
  refine eR.call (k' := 64) (as := [.ref 3]) (rest := []) (v := none) (h1 := (Gc L xs (A.1, 0) B (fw d A.1 A.2 U) V S d X)) rfl rfl rfl rfl (eg (Nat.le_of_ble_eq_true rfl) (show 20 ≤ lo by omega) (Nat.le_of_ble_eq_true rfl)) (c_takePath_15 (show 112 ≤ lo - 20 by omega) hd ht hl hn) ?_
  refine eR.step 1 (F' := (5, [(0, .ref 3)], [.ref 3])) (h' := (Gc L xs (A.1, 0) B (fw d A.1 A.2 U) V S d X)) (fun _ _ => rfl) ?_
  have hk2 := fw_pk (t := B.1) (l := B.2) hd hn2
  have hp2 : (fw d B.1 B.2 V).1 < 2 ^ 20 := Nat.lt_trans hk2.1 (by decide)
  have hi2 : (fw d B.1 B.2 V).2.2.1 < 2 ^ 20 := Nat.lt_trans hk2.2.2.1 (by decide)
  have hs2 : (fw d B.1 B.2 V).2.1 < 2 ^ 20 := Nat.lt_trans hk2.2.1 (by decide)
  refine eR.call (k' := 83) (as := [.ref 3]) (rest := []) (v := none) (h1 := (Gc L xs (A.1, 0) (B.1, 0) (fw d A.1 A.2 U) (fw d B.1 B.2 V) S d X)) rfl rfl rfl rfl (eg (Nat.le_of_ble_eq_true rfl) (show 20 ≤ lo by omega) (Nat.le_of_ble_eq_true rfl)) (c_takePath_17 (show 112 ≤ lo - 20 by omega) hd ht2 hl2 hn2) ?_
  refine eR.step 1 (F' := (9, [(0, .ref 3)], [.ref 3])) (h' := (Gc L xs (A.1, 0) (B.1, 0) (fw d A.1 A.2 U) (fw d B.1 B.2 V) S d X)) (fun _ _ => rfl) ?_
  refine eR.call (k' := 72) (as := [.ref 3]) (rest := []) (v := none) (h1 := (Gc L xs (A.1, 0) (B.1, 0) (fw d A.1 A.2 U) (fw d B.1 B.2 V) S d X)) rfl rfl rfl rfl (eg (Nat.le_of_ble_eq_true rfl) (show 20 ≤ lo by omega) (Nat.le_of_ble_eq_true rfl)) (c_reqNew (U := (fw d A.1 A.2 U)) (show 41 ≤ lo - 20 by omega) hd h0 h1 hp) ?_
  refine eR.step 3 (F' := (17, [(0, .ref 3)], [.ref 21, .ref 3])) (h' := (Gc L xs (A.1, 0) (B.1, 0) (fw d A.1 A.2 U) (fw d B.1 B.2 V) S d X)) (fun _ _ => rfl) ?_
  refine eR.call (k' := 85) (as := [.ref 3, .ref 21]) (rest := []) (v := some (.int (nI ((fw d B.1 B.2 V).2.2.1)))) (h1 := (Gc L xs (A.1, 0) (B.1, 0) (fw d A.1 A.2 U) (fw d B.1 B.2 V) S d X)) rfl rfl rfl rfl (eg (Nat.le_of_ble_eq_true rfl) (show 21 ≤ lo by omega) (Nat.le_of_ble_eq_true rfl)) (c_thing_21 (V := (fw d B.1 B.2 V)) (show 41 ≤ lo - 21 by omega) hd h0 hi2 h2) ?_
  refine eR.step 3 (F' := (23, [(0, .ref 3), (1, .int (nI ((fw d B.1 B.2 V).2.2.1)))], [.int (nI 1), .int (nI ((fw d B.1 B.2 V).2.2.1))])) (h' := (Gc L xs (A.1, 0) (B.1, 0) (fw d A.1 A.2 U) (fw d B.1 B.2 V) S d X)) (fun _ _ => rfl) ?_
  refine eR.icmp rfl true ((nc_ne (by omega) (by omega)).trans (decide_eq_true (by omega))) ?_
  refine eR.step 3 (F' := (41, [(0, .ref 3), (1, .int (nI ((fw d B.1 B.2 V).2.2.1)))], [.int (nI ((fw d B.1 B.2 V).2.2.1)), .ref 8])) (h' := (Gc L xs (A.1, 0) (B.1, 0) (fw d A.1 A.2 U) (fw d B.1 B.2 V) S d X)) (fun _ _ => rfl) ?_
  have h6 := hd.1 (32 + (16 * (fw d B.1 B.2 V).2.2.1))
  refine eR.call (k' := 41) (as := [.ref 8, .int (nI ((fw d B.1 B.2 V).2.2.1))]) (rest := []) (v := some (.int (nI (d (32 + (16 * (fw d B.1 B.2 V).2.2.1)))))) (h1 := (Gc L xs (A.1, 0) (B.1, 0) (fw d A.1 A.2 U) (fw d B.1 B.2 V) S d X)) rfl rfl rfl rfl (eg (Nat.le_of_ble_eq_true rfl) (show 21 ≤ lo by omega) (Nat.le_of_ble_eq_true rfl)) (c_kind (show 21 ≤ lo - 21 by omega) hd hi2) ?_
  refine eR.step 1 (F' := (45, [(0, .ref 3), (1, .int (nI ((fw d B.1 B.2 V).2.2.1)))], [.int (nI 2), .int (nI (d (32 + (16 * (fw d B.1 B.2 V).2.2.1))))])) (h' := (Gc L xs (A.1, 0) (B.1, 0) (fw d A.1 A.2 U) (fw d B.1 B.2 V) S d X)) (fun _ _ => rfl) ?_
  refine eR.icmp rfl false ((nc_ne (by omega) (by omega)).trans (decide_eq_false (by omega))) ?_
  refine eR.step 4 (F' := (55, [(0, .ref 3), (1, .int (nI ((fw d B.1 B.2 V).2.2.1))), (2, .int (nI 1))], [.int (nI 1)])) (h' := (Gc L xs (A.1, 0) (B.1, 0) (fw d A.1 A.2 U) (fw d B.1 B.2 V) S d X)) (fun _ _ => rfl) ?_
  refine eR.ifc rfl false rfl ?_
  refine eR.step 6 (F' := (70, [(0, .ref 3), (1, .int (nI ((fw d B.1 B.2 V).2.2.1))), (2, .int (nI 1))], [.int (nI ((fw d B.1 B.2 V).2.2.1)), .int (nI ((fw d A.1 A.2 U).1)), .ref 9])) (h' := (Gc L xs (A.1, 0) (B.1, 0) (fw d A.1 A.2 U) (fw d B.1 B.2 V) S d X)) (fun _ _ => rfl) ?_
  refine eR.call (k' := 96) (as := [.ref 9, .int (nI ((fw d A.1 A.2 U).1)), .int (nI ((fw d B.1 B.2 V).2.2.1))]) (rest := []) (v := some (.int (nI (bi (up d (fw d B.1 B.2 V).2.2.1 (fw d A.1 A.2 U).1 16))))) (h1 := (Gc L xs (A.1, 0) (B.1, 0) (fw d A.1 A.2 U) (fw d B.1 B.2 V) S d X)) rfl rfl rfl rfl (eg (Nat.le_of_ble_eq_true rfl) (show 24 ≤ lo by omega) (Nat.le_of_ble_eq_true rfl)) (c_lies (show 66 ≤ lo - 24 by omega) hd hp hi2) ?_
  rw [bj_f h5]
  refine eR.ifc rfl true rfl ?_
  refine eR.step 2 (F' := (88, [(0, .ref 3), (1, .int (nI ((fw d B.1 B.2 V).2.2.1))), (2, .int (nI 1))], [.int (nI 0), .ref 3])) (h' := (Gc L xs (A.1, 0) (B.1, 0) (fw d A.1 A.2 U) (fw d B.1 B.2 V) S d X)) (fun _ _ => rfl) ?_
  refine eR.call (k' := 75) (as := [.ref 3, .int (nI 0)]) (rest := []) (v := none) (h1 := (Gc L xs (A.1, 0) (B.1, 0) (fw d A.1 A.2 U) (fw d B.1 B.2 V) S d X)) rfl rfl rfl rfl (eg (Nat.le_of_ble_eq_true rfl) (show 21 ≤ lo by omega) (Nat.le_of_ble_eq_true rfl)) (c_reqSlot (U := (fw d A.1 A.2 U)) (show 115 ≤ lo - 21 by omega) hd hp (by decide) h7 h8) ?_
  refine eR.step 9 (F' := (110, [(0, .ref 3), (1, .int (nI ((fw d B.1 B.2 V).2.2.1))), (2, .int (nI 1))], [.ref 20, .int (nI ((fw d B.1 B.2 V).2.2.1)), .int (nI ((fw d A.1 A.2 U).1)), .ref 9])) (h' := (Gc L xs (A.1, 0) (B.1, 0) (fw d A.1 A.2 U) (fw d B.1 B.2 V) S d X)) (fun _ _ => rfl) ?_
  refine eR.call (k' := 80) (as := [.ref 9, .int (nI ((fw d A.1 A.2 U).1)), .int (nI ((fw d B.1 B.2 V).2.2.1)), .ref 20]) (rest := []) (v := none) (h1 := (Gc L xs (A.1, 0) (B.1, 0) (fw d A.1 A.2 U) (fw d B.1 B.2 V) S (ad d (fw d A.1 A.2 U).1 (fw d B.1 B.2 V).2.2.1 (fw d A.1 A.2 U).2.2.2) X)) rfl rfl rfl rfl (eg (Nat.le_of_ble_eq_true rfl) (show 24 ≤ lo by omega) (Nat.le_of_ble_eq_true rfl)) (c_add (U := (fw d A.1 A.2 U)) (show 92 ≤ lo - 24 by omega) hd hk.2.2.2 hp hi2) ?_
  refine eR.step 8 (F' := (131, [(0, .ref 3), (1, .int (nI ((fw d B.1 B.2 V).2.2.1))), (2, .int (nI 1))], [.int (nI ((fw d B.1 B.2 V).2.1)), .int (nI ((fw d B.1 B.2 V).1)), .ref 9])) (h' := (Gc L xs (A.1, 0) (B.1, 0) (fw d A.1 A.2 U) (fw d B.1 B.2 V) S (ad d (fw d A.1 A.2 U).1 (fw d B.1 B.2 V).2.2.1 (fw d A.1 A.2 U).2.2.2) X)) (fun _ _ => rfl) ?_
  refine eR.call (k' := 87) (as := [.ref 9, .int (nI ((fw d B.1 B.2 V).1)), .int (nI ((fw d B.1 B.2 V).2.1))]) (rest := []) (v := none) (h1 := (Gc L xs (A.1, 0) (B.1, 0) (fw d A.1 A.2 U) (fw d B.1 B.2 V) S (fr_ (ad d (fw d A.1 A.2 U).1 (fw d B.1 B.2 V).2.2.1 (fw d A.1 A.2 U).2.2.2) (fw d B.1 B.2 V).1 (fw d B.1 B.2 V).2.1) X)) rfl rfl rfl rfl (eg (Nat.le_of_ble_eq_true rfl) (show 23 ≤ lo by omega) (Nat.le_of_ble_eq_true rfl)) (c_free (show 66 ≤ lo - 23 by omega) (ad_dk hd _ _ _) hp2 hs2) ?_
  refine eR.step 1 (F' := (135, [(0, .ref 3), (1, .int (nI ((fw d B.1 B.2 V).2.2.1))), (2, .int (nI 1))], [.int (nI 1)])) (h' := (Gc L xs (A.1, 0) (B.1, 0) (fw d A.1 A.2 U) (fw d B.1 B.2 V) S (fr_ (ad d (fw d A.1 A.2 U).1 (fw d B.1 B.2 V).2.2.1 (fw d A.1 A.2 U).2.2.2) (fw d B.1 B.2 V).1 (fw d B.1 B.2 V).2.1) X)) (fun _ _ => rfl) ?_
  refine eR.ifc rfl false rfl ?_
  refine eR.step 6 (F' := (150, [(0, .ref 3), (1, .int (nI ((fw d B.1 B.2 V).2.2.1))), (2, .int (nI 1))], [.int (nI ((fw d A.1 A.2 U).1)), .int (nI ((fw d B.1 B.2 V).2.2.1)), .ref 9])) (h' := (Gc L xs (A.1, 0) (B.1, 0) (fw d A.1 A.2 U) (fw d B.1 B.2 V) S (fr_ (ad d (fw d A.1 A.2 U).1 (fw d B.1 B.2 V).2.2.1 (fw d A.1 A.2 U).2.2.2) (fw d B.1 B.2 V).1 (fw d B.1 B.2 V).2.1) X)) (fun _ _ => rfl) ?_
  refine eR.call (k' := 97) (as := [.ref 9, .int (nI ((fw d B.1 B.2 V).2.2.1)), .int (nI ((fw d A.1 A.2 U).1))]) (rest := []) (v := none) (h1 := (Gc L xs (A.1, 0) (B.1, 0) (fw d A.1 A.2 U) (fw d B.1 B.2 V) S (pu (fr_ (ad d (fw d A.1 A.2 U).1 (fw d B.1 B.2 V).2.2.1 (fw d A.1 A.2 U).2.2.2) (fw d B.1 B.2 V).1 (fw d B.1 B.2 V).2.1) (fw d B.1 B.2 V).2.2.1 (fw d A.1 A.2 U).1) X)) rfl rfl rfl rfl (eg (Nat.le_of_ble_eq_true rfl) (show 23 ≤ lo by omega) (Nat.le_of_ble_eq_true rfl)) (c_putUnder (show 66 ≤ lo - 23 by omega) (fr_dk (ad_dk hd _ _ _) _ _) hi2 hp) ?_
  refine eR.step 1 (F' := (154, [(0, .ref 3), (1, .int (nI ((fw d B.1 B.2 V).2.2.1))), (2, .int (nI 1))], [.int (nI ((fw d B.1 B.2 V).2.2.1))])) (h' := (Gc L xs (A.1, 0) (B.1, 0) (fw d A.1 A.2 U) (fw d B.1 B.2 V) S (pu (fr_ (ad d (fw d A.1 A.2 U).1 (fw d B.1 B.2 V).2.2.1 (fw d A.1 A.2 U).2.2.2) (fw d B.1 B.2 V).1 (fw d B.1 B.2 V).2.1) (fw d B.1 B.2 V).2.2.1 (fw d A.1 A.2 U).1) X)) (fun _ _ => rfl) ?_
  exact eR.ret rfl rfl rfl
theorem c_renameT5F {cm sm fr lo L : Nat} {xs : Nat → Int32} {A B : gT} {U V : gU} {S : gS} {d : Nat → Nat} {X : mj_H} (hlo : 200 ≤ lo) (hR : gR cm sm L X) (hd : dk d) (ht : ∀ k, A.1 k < 65536) (hl : A.2 ≤ 40) (hn : ∀ k, U.2.2.2 k < 128) (ht2 : ∀ k, B.1 k < 65536) (hl2 : B.2 ≤ 40) (hn2 : ∀ k, V.2.2.2 k < 128) (h0 : d 11 ≠ 0) (h1 : (fw d A.1 A.2 U).1 ≠ 0) (h2 : (fw d B.1 B.2 V).2.2.1 ≠ 0) (h3 : (fw d B.1 B.2 V).2.2.1 ≠ 1) (h4 : d (32 + (16 * (fw d B.1 B.2 V).2.2.1)) ≠ 2) (h7 : (fw d A.1 A.2 U).2.2.1 ≠ 0) : eE mm_P cm sm (fr + 9) lo 95 [.ref 3] (Gc L xs A B U V S d X) (.inr (23 + X.length), (Gc L xs (A.1, 0) (B.1, 0) (fw d A.1 A.2 U) (fw d B.1 B.2 V) S d (X ++ [.inr (0, [])]))) := by
  refine eE.of ?_
  refine eR.step 1 (F' := (1, [(0, .ref 3)], [.ref 3])) (h' := (Gc L xs A B U V S d X)) (fun _ _ => rfl) ?_
  have hk := fw_pk (t := A.1) (l := A.2) hd hn
  have hp : (fw d A.1 A.2 U).1 < 2 ^ 20 := Nat.lt_trans hk.1 (by decide)
  have hi : (fw d A.1 A.2 U).2.2.1 < 2 ^ 20 := Nat.lt_trans hk.2.2.1 (by decide)
  have hs : (fw d A.1 A.2 U).2.1 < 2 ^ 20 := Nat.lt_trans hk.2.1 (by decide)
  refine eR.call (k' := 64) (as := [.ref 3]) (rest := []) (v := none) (h1 := (Gc L xs (A.1, 0) B (fw d A.1 A.2 U) V S d X)) rfl rfl rfl rfl (eg (Nat.le_of_ble_eq_true rfl) (show 20 ≤ lo by omega) (Nat.le_of_ble_eq_true rfl)) (c_takePath_15 (show 112 ≤ lo - 20 by omega) hd ht hl hn) ?_
  refine eR.step 1 (F' := (5, [(0, .ref 3)], [.ref 3])) (h' := (Gc L xs (A.1, 0) B (fw d A.1 A.2 U) V S d X)) (fun _ _ => rfl) ?_
  have hk2 := fw_pk (t := B.1) (l := B.2) hd hn2
  have hp2 : (fw d B.1 B.2 V).1 < 2 ^ 20 := Nat.lt_trans hk2.1 (by decide)
  have hi2 : (fw d B.1 B.2 V).2.2.1 < 2 ^ 20 := Nat.lt_trans hk2.2.2.1 (by decide)
  have hs2 : (fw d B.1 B.2 V).2.1 < 2 ^ 20 := Nat.lt_trans hk2.2.1 (by decide)
  refine eR.call (k' := 83) (as := [.ref 3]) (rest := []) (v := none) (h1 := (Gc L xs (A.1, 0) (B.1, 0) (fw d A.1 A.2 U) (fw d B.1 B.2 V) S d X)) rfl rfl rfl rfl (eg (Nat.le_of_ble_eq_true rfl) (show 20 ≤ lo by omega) (Nat.le_of_ble_eq_true rfl)) (c_takePath_17 (show 112 ≤ lo - 20 by omega) hd ht2 hl2 hn2) ?_
  refine eR.step 1 (F' := (9, [(0, .ref 3)], [.ref 3])) (h' := (Gc L xs (A.1, 0) (B.1, 0) (fw d A.1 A.2 U) (fw d B.1 B.2 V) S d X)) (fun _ _ => rfl) ?_
  refine eR.call (k' := 72) (as := [.ref 3]) (rest := []) (v := none) (h1 := (Gc L xs (A.1, 0) (B.1, 0) (fw d A.1 A.2 U) (fw d B.1 B.2 V) S d X)) rfl rfl rfl rfl (eg (Nat.le_of_ble_eq_true rfl) (show 20 ≤ lo by omega) (Nat.le_of_ble_eq_true rfl)) (c_reqNew (U := (fw d A.1 A.2 U)) (show 41 ≤ lo - 20 by omega) hd h0 h1 hp) ?_
  refine eR.step 3 (F' := (17, [(0, .ref 3)], [.ref 21, .ref 3])) (h' := (Gc L xs (A.1, 0) (B.1, 0) (fw d A.1 A.2 U) (fw d B.1 B.2 V) S d X)) (fun _ _ => rfl) ?_
  refine eR.call (k' := 85) (as := [.ref 3, .ref 21]) (rest := []) (v := some (.int (nI ((fw d B.1 B.2 V).2.2.1)))) (h1 := (Gc L xs (A.1, 0) (B.1, 0) (fw d A.1 A.2 U) (fw d B.1 B.2 V) S d X)) rfl rfl rfl rfl (eg (Nat.le_of_ble_eq_true rfl) (show 21 ≤ lo by omega) (Nat.le_of_ble_eq_true rfl)) (c_thing_21 (V := (fw d B.1 B.2 V)) (show 41 ≤ lo - 21 by omega) hd h0 hi2 h2) ?_
  refine eR.step 3 (F' := (23, [(0, .ref 3), (1, .int (nI ((fw d B.1 B.2 V).2.2.1)))], [.int (nI 1), .int (nI ((fw d B.1 B.2 V).2.2.1))])) (h' := (Gc L xs (A.1, 0) (B.1, 0) (fw d A.1 A.2 U) (fw d B.1 B.2 V) S d X)) (fun _ _ => rfl) ?_
  refine eR.icmp rfl true ((nc_ne (by omega) (by omega)).trans (decide_eq_true (by omega))) ?_
  refine eR.step 3 (F' := (41, [(0, .ref 3), (1, .int (nI ((fw d B.1 B.2 V).2.2.1)))], [.int (nI ((fw d B.1 B.2 V).2.2.1)), .ref 8])) (h' := (Gc L xs (A.1, 0) (B.1, 0) (fw d A.1 A.2 U) (fw d B.1 B.2 V) S d X)) (fun _ _ => rfl) ?_
  have h6 := hd.1 (32 + (16 * (fw d B.1 B.2 V).2.2.1))
  refine eR.call (k' := 41) (as := [.ref 8, .int (nI ((fw d B.1 B.2 V).2.2.1))]) (rest := []) (v := some (.int (nI (d (32 + (16 * (fw d B.1 B.2 V).2.2.1)))))) (h1 := (Gc L xs (A.1, 0) (B.1, 0) (fw d A.1 A.2 U) (fw d B.1 B.2 V) S d X)) rfl rfl rfl rfl (eg (Nat.le_of_ble_eq_true rfl) (show 21 ≤ lo by omega) (Nat.le_of_ble_eq_true rfl)) (c_kind (show 21 ≤ lo - 21 by omega) hd hi2) ?_
  refine eR.step 1 (F' := (45, [(0, .ref 3), (1, .int (nI ((fw d B.1 B.2 V).2.2.1)))], [.int (nI 2), .int (nI (d (32 + (16 * (fw d B.1 B.2 V).2.2.1))))])) (h' := (Gc L xs (A.1, 0) (B.1, 0) (fw d A.1 A.2 U) (fw d B.1 B.2 V) S d X)) (fun _ _ => rfl) ?_
  refine eR.icmp rfl true ((nc_ne (by omega) (by omega)).trans (decide_eq_true (by omega))) ?_
  refine eR.step 3 (F' := (55, [(0, .ref 3), (1, .int (nI ((fw d B.1 B.2 V).2.2.1))), (2, .int (nI 0))], [.int (nI 0)])) (h' := (Gc L xs (A.1, 0) (B.1, 0) (fw d A.1 A.2 U) (fw d B.1 B.2 V) S d X)) (fun _ _ => rfl) ?_
  refine eR.ifc rfl true rfl ?_
  refine eR.step 2 (F' := (88, [(0, .ref 3), (1, .int (nI ((fw d B.1 B.2 V).2.2.1))), (2, .int (nI 0))], [.int (nI 0), .ref 3])) (h' := (Gc L xs (A.1, 0) (B.1, 0) (fw d A.1 A.2 U) (fw d B.1 B.2 V) S d X)) (fun _ _ => rfl) ?_
  exact eR.callU (k' := 75) (as := [.ref 3, .int (nI 0)]) (rest := []) (cx := 0) (fs := []) (h1 := (Gc L xs (A.1, 0) (B.1, 0) (fw d A.1 A.2 U) (fw d B.1 B.2 V) S d (X ++ [.inr (0, [])]))) rfl rfl rfl rfl (eg (Nat.le_of_ble_eq_true rfl) (show 21 ≤ lo by omega) (Nat.le_of_ble_eq_true rfl)) (c_reqSlotT1 (U := (fw d A.1 A.2 U)) (show 115 ≤ lo - 21 by omega) hR h7 hi) (Gc_top ..) rfl rfl rfl
theorem c_renameT6F {cm sm fr lo L : Nat} {xs : Nat → Int32} {A B : gT} {U V : gU} {S : gS} {d : Nat → Nat} {X : mj_H} (hlo : 200 ≤ lo) (hR : gR cm sm L X) (hd : dk d) (ht : ∀ k, A.1 k < 65536) (hl : A.2 ≤ 40) (hn : ∀ k, U.2.2.2 k < 128) (ht2 : ∀ k, B.1 k < 65536) (hl2 : B.2 ≤ 40) (hn2 : ∀ k, V.2.2.2 k < 128) (h0 : d 11 ≠ 0) (h1 : (fw d A.1 A.2 U).1 ≠ 0) (h2 : (fw d B.1 B.2 V).2.2.1 ≠ 0) (h3 : (fw d B.1 B.2 V).2.2.1 ≠ 1) (h4 : d (32 + (16 * (fw d B.1 B.2 V).2.2.1)) ≠ 2) (h7 : (fw d A.1 A.2 U).2.2.1 = 0) (h8 : ¬ hr d (fw d A.1 A.2 U).1 0 = true) : eE mm_P cm sm (fr + 9) lo 95 [.ref 3] (Gc L xs A B U V S d X) (.inr (23 + X.length), (Gc L xs (A.1, 0) (B.1, 0) (fw d A.1 A.2 U) (fw d B.1 B.2 V) S d (X ++ [.inr (0, [])]))) := by
  refine eE.of ?_
  refine eR.step 1 (F' := (1, [(0, .ref 3)], [.ref 3])) (h' := (Gc L xs A B U V S d X)) (fun _ _ => rfl) ?_
  have hk := fw_pk (t := A.1) (l := A.2) hd hn
  have hp : (fw d A.1 A.2 U).1 < 2 ^ 20 := Nat.lt_trans hk.1 (by decide)
  have hi : (fw d A.1 A.2 U).2.2.1 < 2 ^ 20 := Nat.lt_trans hk.2.2.1 (by decide)
  have hs : (fw d A.1 A.2 U).2.1 < 2 ^ 20 := Nat.lt_trans hk.2.1 (by decide)
  refine eR.call (k' := 64) (as := [.ref 3]) (rest := []) (v := none) (h1 := (Gc L xs (A.1, 0) B (fw d A.1 A.2 U) V S d X)) rfl rfl rfl rfl (eg (Nat.le_of_ble_eq_true rfl) (show 20 ≤ lo by omega) (Nat.le_of_ble_eq_true rfl)) (c_takePath_15 (show 112 ≤ lo - 20 by omega) hd ht hl hn) ?_
  refine eR.step 1 (F' := (5, [(0, .ref 3)], [.ref 3])) (h' := (Gc L xs (A.1, 0) B (fw d A.1 A.2 U) V S d X)) (fun _ _ => rfl) ?_
  have hk2 := fw_pk (t := B.1) (l := B.2) hd hn2
  have hp2 : (fw d B.1 B.2 V).1 < 2 ^ 20 := Nat.lt_trans hk2.1 (by decide)
  have hi2 : (fw d B.1 B.2 V).2.2.1 < 2 ^ 20 := Nat.lt_trans hk2.2.2.1 (by decide)
  have hs2 : (fw d B.1 B.2 V).2.1 < 2 ^ 20 := Nat.lt_trans hk2.2.1 (by decide)
  refine eR.call (k' := 83) (as := [.ref 3]) (rest := []) (v := none) (h1 := (Gc L xs (A.1, 0) (B.1, 0) (fw d A.1 A.2 U) (fw d B.1 B.2 V) S d X)) rfl rfl rfl rfl (eg (Nat.le_of_ble_eq_true rfl) (show 20 ≤ lo by omega) (Nat.le_of_ble_eq_true rfl)) (c_takePath_17 (show 112 ≤ lo - 20 by omega) hd ht2 hl2 hn2) ?_
  refine eR.step 1 (F' := (9, [(0, .ref 3)], [.ref 3])) (h' := (Gc L xs (A.1, 0) (B.1, 0) (fw d A.1 A.2 U) (fw d B.1 B.2 V) S d X)) (fun _ _ => rfl) ?_
  refine eR.call (k' := 72) (as := [.ref 3]) (rest := []) (v := none) (h1 := (Gc L xs (A.1, 0) (B.1, 0) (fw d A.1 A.2 U) (fw d B.1 B.2 V) S d X)) rfl rfl rfl rfl (eg (Nat.le_of_ble_eq_true rfl) (show 20 ≤ lo by omega) (Nat.le_of_ble_eq_true rfl)) (c_reqNew (U := (fw d A.1 A.2 U)) (show 41 ≤ lo - 20 by omega) hd h0 h1 hp) ?_
  refine eR.step 3 (F' := (17, [(0, .ref 3)], [.ref 21, .ref 3])) (h' := (Gc L xs (A.1, 0) (B.1, 0) (fw d A.1 A.2 U) (fw d B.1 B.2 V) S d X)) (fun _ _ => rfl) ?_
  refine eR.call (k' := 85) (as := [.ref 3, .ref 21]) (rest := []) (v := some (.int (nI ((fw d B.1 B.2 V).2.2.1)))) (h1 := (Gc L xs (A.1, 0) (B.1, 0) (fw d A.1 A.2 U) (fw d B.1 B.2 V) S d X)) rfl rfl rfl rfl (eg (Nat.le_of_ble_eq_true rfl) (show 21 ≤ lo by omega) (Nat.le_of_ble_eq_true rfl)) (c_thing_21 (V := (fw d B.1 B.2 V)) (show 41 ≤ lo - 21 by omega) hd h0 hi2 h2) ?_
  refine eR.step 3 (F' := (23, [(0, .ref 3), (1, .int (nI ((fw d B.1 B.2 V).2.2.1)))], [.int (nI 1), .int (nI ((fw d B.1 B.2 V).2.2.1))])) (h' := (Gc L xs (A.1, 0) (B.1, 0) (fw d A.1 A.2 U) (fw d B.1 B.2 V) S d X)) (fun _ _ => rfl) ?_
  refine eR.icmp rfl true ((nc_ne (by omega) (by omega)).trans (decide_eq_true (by omega))) ?_
  refine eR.step 3 (F' := (41, [(0, .ref 3), (1, .int (nI ((fw d B.1 B.2 V).2.2.1)))], [.int (nI ((fw d B.1 B.2 V).2.2.1)), .ref 8])) (h' := (Gc L xs (A.1, 0) (B.1, 0) (fw d A.1 A.2 U) (fw d B.1 B.2 V) S d X)) (fun _ _ => rfl) ?_
  have h6 := hd.1 (32 + (16 * (fw d B.1 B.2 V).2.2.1))
  refine eR.call (k' := 41) (as := [.ref 8, .int (nI ((fw d B.1 B.2 V).2.2.1))]) (rest := []) (v := some (.int (nI (d (32 + (16 * (fw d B.1 B.2 V).2.2.1)))))) (h1 := (Gc L xs (A.1, 0) (B.1, 0) (fw d A.1 A.2 U) (fw d B.1 B.2 V) S d X)) rfl rfl rfl rfl (eg (Nat.le_of_ble_eq_true rfl) (show 21 ≤ lo by omega) (Nat.le_of_ble_eq_true rfl)) (c_kind (show 21 ≤ lo - 21 by omega) hd hi2) ?_
  refine eR.step 1 (F' := (45, [(0, .ref 3), (1, .int (nI ((fw d B.1 B.2 V).2.2.1)))], [.int (nI 2), .int (nI (d (32 + (16 * (fw d B.1 B.2 V).2.2.1))))])) (h' := (Gc L xs (A.1, 0) (B.1, 0) (fw d A.1 A.2 U) (fw d B.1 B.2 V) S d X)) (fun _ _ => rfl) ?_
  refine eR.icmp rfl true ((nc_ne (by omega) (by omega)).trans (decide_eq_true (by omega))) ?_
  refine eR.step 3 (F' := (55, [(0, .ref 3), (1, .int (nI ((fw d B.1 B.2 V).2.2.1))), (2, .int (nI 0))], [.int (nI 0)])) (h' := (Gc L xs (A.1, 0) (B.1, 0) (fw d A.1 A.2 U) (fw d B.1 B.2 V) S d X)) (fun _ _ => rfl) ?_
  refine eR.ifc rfl true rfl ?_
  refine eR.step 2 (F' := (88, [(0, .ref 3), (1, .int (nI ((fw d B.1 B.2 V).2.2.1))), (2, .int (nI 0))], [.int (nI 0), .ref 3])) (h' := (Gc L xs (A.1, 0) (B.1, 0) (fw d A.1 A.2 U) (fw d B.1 B.2 V) S d X)) (fun _ _ => rfl) ?_
  exact eR.callU (k' := 75) (as := [.ref 3, .int (nI 0)]) (rest := []) (cx := 0) (fs := []) (h1 := (Gc L xs (A.1, 0) (B.1, 0) (fw d A.1 A.2 U) (fw d B.1 B.2 V) S d (X ++ [.inr (0, [])]))) rfl rfl rfl rfl (eg (Nat.le_of_ble_eq_true rfl) (show 21 ≤ lo by omega) (Nat.le_of_ble_eq_true rfl)) (c_reqSlotT2 (U := (fw d A.1 A.2 U)) (show 115 ≤ lo - 21 by omega) hR hd hp (by decide) h7 h8) (Gc_top ..) rfl rfl rfl
theorem c_renameF {cm sm fr lo L : Nat} {xs : Nat → Int32} {A B : gT} {U V : gU} {S : gS} {d : Nat → Nat} {X : mj_H} (hlo : 136 ≤ lo) (hd : dk d) (ht : ∀ k, A.1 k < 65536) (hl : A.2 ≤ 40) (hn : ∀ k, U.2.2.2 k < 128) (ht2 : ∀ k, B.1 k < 65536) (hl2 : B.2 ≤ 40) (hn2 : ∀ k, V.2.2.2 k < 128) (h0 : d 11 ≠ 0) (h1 : (fw d A.1 A.2 U).1 ≠ 0) (h2 : (fw d B.1 B.2 V).2.2.1 ≠ 0) (h3 : (fw d B.1 B.2 V).2.2.1 ≠ 1) (h4 : d (32 + (16 * (fw d B.1 B.2 V).2.2.1)) ≠ 2) (h7 : (fw d A.1 A.2 U).2.2.1 = 0) (h8 : hr d (fw d A.1 A.2 U).1 0 = true) : eE mm_P cm sm (fr + 8) lo 95 [.ref 3] (Gc L xs A B U V S d X) (.inl (some (.int (nI ((fw d B.1 B.2 V).2.2.1)))), (Gc L xs (A.1, 0) (B.1, 0) (fw d A.1 A.2 U) (fw d B.1 B.2 V) S (fr_ (ad d (fw d A.1 A.2 U).1 (fw d B.1 B.2 V).2.2.1 (fw d A.1 A.2 U).2.2.2) (fw d B.1 B.2 V).1 (fw d B.1 B.2 V).2.1) X)) := by
  refine eE.of ?_
  refine eR.step 1 (F' := (1, [(0, .ref 3)], [.ref 3])) (h' := (Gc L xs A B U V S d X)) (fun _ _ => rfl) ?_
  have hk := fw_pk (t := A.1) (l := A.2) hd hn
  have hp : (fw d A.1 A.2 U).1 < 2 ^ 20 := Nat.lt_trans hk.1 (by decide)
  have hi : (fw d A.1 A.2 U).2.2.1 < 2 ^ 20 := Nat.lt_trans hk.2.2.1 (by decide)
  have hs : (fw d A.1 A.2 U).2.1 < 2 ^ 20 := Nat.lt_trans hk.2.1 (by decide)
  refine eR.call (k' := 64) (as := [.ref 3]) (rest := []) (v := none) (h1 := (Gc L xs (A.1, 0) B (fw d A.1 A.2 U) V S d X)) rfl rfl rfl rfl (eg (Nat.le_of_ble_eq_true rfl) (show 20 ≤ lo by omega) (Nat.le_of_ble_eq_true rfl)) (c_takePath_15 (show 112 ≤ lo - 20 by omega) hd ht hl hn) ?_
  refine eR.step 1 (F' := (5, [(0, .ref 3)], [.ref 3])) (h' := (Gc L xs (A.1, 0) B (fw d A.1 A.2 U) V S d X)) (fun _ _ => rfl) ?_
  have hk2 := fw_pk (t := B.1) (l := B.2) hd hn2
  have hp2 : (fw d B.1 B.2 V).1 < 2 ^ 20 := Nat.lt_trans hk2.1 (by decide)
  have hi2 : (fw d B.1 B.2 V).2.2.1 < 2 ^ 20 := Nat.lt_trans hk2.2.2.1 (by decide)
  have hs2 : (fw d B.1 B.2 V).2.1 < 2 ^ 20 := Nat.lt_trans hk2.2.1 (by decide)
  refine eR.call (k' := 83) (as := [.ref 3]) (rest := []) (v := none) (h1 := (Gc L xs (A.1, 0) (B.1, 0) (fw d A.1 A.2 U) (fw d B.1 B.2 V) S d X)) rfl rfl rfl rfl (eg (Nat.le_of_ble_eq_true rfl) (show 20 ≤ lo by omega) (Nat.le_of_ble_eq_true rfl)) (c_takePath_17 (show 112 ≤ lo - 20 by omega) hd ht2 hl2 hn2) ?_
  refine eR.step 1 (F' := (9, [(0, .ref 3)], [.ref 3])) (h' := (Gc L xs (A.1, 0) (B.1, 0) (fw d A.1 A.2 U) (fw d B.1 B.2 V) S d X)) (fun _ _ => rfl) ?_
  refine eR.call (k' := 72) (as := [.ref 3]) (rest := []) (v := none) (h1 := (Gc L xs (A.1, 0) (B.1, 0) (fw d A.1 A.2 U) (fw d B.1 B.2 V) S d X)) rfl rfl rfl rfl (eg (Nat.le_of_ble_eq_true rfl) (show 20 ≤ lo by omega) (Nat.le_of_ble_eq_true rfl)) (c_reqNew (U := (fw d A.1 A.2 U)) (show 41 ≤ lo - 20 by omega) hd h0 h1 hp) ?_
  refine eR.step 3 (F' := (17, [(0, .ref 3)], [.ref 21, .ref 3])) (h' := (Gc L xs (A.1, 0) (B.1, 0) (fw d A.1 A.2 U) (fw d B.1 B.2 V) S d X)) (fun _ _ => rfl) ?_
  refine eR.call (k' := 85) (as := [.ref 3, .ref 21]) (rest := []) (v := some (.int (nI ((fw d B.1 B.2 V).2.2.1)))) (h1 := (Gc L xs (A.1, 0) (B.1, 0) (fw d A.1 A.2 U) (fw d B.1 B.2 V) S d X)) rfl rfl rfl rfl (eg (Nat.le_of_ble_eq_true rfl) (show 21 ≤ lo by omega) (Nat.le_of_ble_eq_true rfl)) (c_thing_21 (V := (fw d B.1 B.2 V)) (show 41 ≤ lo - 21 by omega) hd h0 hi2 h2) ?_
  refine eR.step 3 (F' := (23, [(0, .ref 3), (1, .int (nI ((fw d B.1 B.2 V).2.2.1)))], [.int (nI 1), .int (nI ((fw d B.1 B.2 V).2.2.1))])) (h' := (Gc L xs (A.1, 0) (B.1, 0) (fw d A.1 A.2 U) (fw d B.1 B.2 V) S d X)) (fun _ _ => rfl) ?_
  refine eR.icmp rfl true ((nc_ne (by omega) (by omega)).trans (decide_eq_true (by omega))) ?_
  refine eR.step 3 (F' := (41, [(0, .ref 3), (1, .int (nI ((fw d B.1 B.2 V).2.2.1)))], [.int (nI ((fw d B.1 B.2 V).2.2.1)), .ref 8])) (h' := (Gc L xs (A.1, 0) (B.1, 0) (fw d A.1 A.2 U) (fw d B.1 B.2 V) S d X)) (fun _ _ => rfl) ?_
  have h6 := hd.1 (32 + (16 * (fw d B.1 B.2 V).2.2.1))
  refine eR.call (k' := 41) (as := [.ref 8, .int (nI ((fw d B.1 B.2 V).2.2.1))]) (rest := []) (v := some (.int (nI (d (32 + (16 * (fw d B.1 B.2 V).2.2.1)))))) (h1 := (Gc L xs (A.1, 0) (B.1, 0) (fw d A.1 A.2 U) (fw d B.1 B.2 V) S d X)) rfl rfl rfl rfl (eg (Nat.le_of_ble_eq_true rfl) (show 21 ≤ lo by omega) (Nat.le_of_ble_eq_true rfl)) (c_kind (show 21 ≤ lo - 21 by omega) hd hi2) ?_
  refine eR.step 1 (F' := (45, [(0, .ref 3), (1, .int (nI ((fw d B.1 B.2 V).2.2.1)))], [.int (nI 2), .int (nI (d (32 + (16 * (fw d B.1 B.2 V).2.2.1))))])) (h' := (Gc L xs (A.1, 0) (B.1, 0) (fw d A.1 A.2 U) (fw d B.1 B.2 V) S d X)) (fun _ _ => rfl) ?_
  refine eR.icmp rfl true ((nc_ne (by omega) (by omega)).trans (decide_eq_true (by omega))) ?_
  refine eR.step 3 (F' := (55, [(0, .ref 3), (1, .int (nI ((fw d B.1 B.2 V).2.2.1))), (2, .int (nI 0))], [.int (nI 0)])) (h' := (Gc L xs (A.1, 0) (B.1, 0) (fw d A.1 A.2 U) (fw d B.1 B.2 V) S d X)) (fun _ _ => rfl) ?_
  refine eR.ifc rfl true rfl ?_
  refine eR.step 2 (F' := (88, [(0, .ref 3), (1, .int (nI ((fw d B.1 B.2 V).2.2.1))), (2, .int (nI 0))], [.int (nI 0), .ref 3])) (h' := (Gc L xs (A.1, 0) (B.1, 0) (fw d A.1 A.2 U) (fw d B.1 B.2 V) S d X)) (fun _ _ => rfl) ?_
  refine eR.call (k' := 75) (as := [.ref 3, .int (nI 0)]) (rest := []) (v := none) (h1 := (Gc L xs (A.1, 0) (B.1, 0) (fw d A.1 A.2 U) (fw d B.1 B.2 V) S d X)) rfl rfl rfl rfl (eg (Nat.le_of_ble_eq_true rfl) (show 21 ≤ lo by omega) (Nat.le_of_ble_eq_true rfl)) (c_reqSlot (U := (fw d A.1 A.2 U)) (show 115 ≤ lo - 21 by omega) hd hp (by decide) h7 h8) ?_
  refine eR.step 9 (F' := (110, [(0, .ref 3), (1, .int (nI ((fw d B.1 B.2 V).2.2.1))), (2, .int (nI 0))], [.ref 20, .int (nI ((fw d B.1 B.2 V).2.2.1)), .int (nI ((fw d A.1 A.2 U).1)), .ref 9])) (h' := (Gc L xs (A.1, 0) (B.1, 0) (fw d A.1 A.2 U) (fw d B.1 B.2 V) S d X)) (fun _ _ => rfl) ?_
  refine eR.call (k' := 80) (as := [.ref 9, .int (nI ((fw d A.1 A.2 U).1)), .int (nI ((fw d B.1 B.2 V).2.2.1)), .ref 20]) (rest := []) (v := none) (h1 := (Gc L xs (A.1, 0) (B.1, 0) (fw d A.1 A.2 U) (fw d B.1 B.2 V) S (ad d (fw d A.1 A.2 U).1 (fw d B.1 B.2 V).2.2.1 (fw d A.1 A.2 U).2.2.2) X)) rfl rfl rfl rfl (eg (Nat.le_of_ble_eq_true rfl) (show 24 ≤ lo by omega) (Nat.le_of_ble_eq_true rfl)) (c_add (U := (fw d A.1 A.2 U)) (show 92 ≤ lo - 24 by omega) hd hk.2.2.2 hp hi2) ?_
  refine eR.step 8 (F' := (131, [(0, .ref 3), (1, .int (nI ((fw d B.1 B.2 V).2.2.1))), (2, .int (nI 0))], [.int (nI ((fw d B.1 B.2 V).2.1)), .int (nI ((fw d B.1 B.2 V).1)), .ref 9])) (h' := (Gc L xs (A.1, 0) (B.1, 0) (fw d A.1 A.2 U) (fw d B.1 B.2 V) S (ad d (fw d A.1 A.2 U).1 (fw d B.1 B.2 V).2.2.1 (fw d A.1 A.2 U).2.2.2) X)) (fun _ _ => rfl) ?_
  refine eR.call (k' := 87) (as := [.ref 9, .int (nI ((fw d B.1 B.2 V).1)), .int (nI ((fw d B.1 B.2 V).2.1))]) (rest := []) (v := none) (h1 := (Gc L xs (A.1, 0) (B.1, 0) (fw d A.1 A.2 U) (fw d B.1 B.2 V) S (fr_ (ad d (fw d A.1 A.2 U).1 (fw d B.1 B.2 V).2.2.1 (fw d A.1 A.2 U).2.2.2) (fw d B.1 B.2 V).1 (fw d B.1 B.2 V).2.1) X)) rfl rfl rfl rfl (eg (Nat.le_of_ble_eq_true rfl) (show 23 ≤ lo by omega) (Nat.le_of_ble_eq_true rfl)) (c_free (show 66 ≤ lo - 23 by omega) (ad_dk hd _ _ _) hp2 hs2) ?_
  refine eR.step 1 (F' := (135, [(0, .ref 3), (1, .int (nI ((fw d B.1 B.2 V).2.2.1))), (2, .int (nI 0))], [.int (nI 0)])) (h' := (Gc L xs (A.1, 0) (B.1, 0) (fw d A.1 A.2 U) (fw d B.1 B.2 V) S (fr_ (ad d (fw d A.1 A.2 U).1 (fw d B.1 B.2 V).2.2.1 (fw d A.1 A.2 U).2.2.2) (fw d B.1 B.2 V).1 (fw d B.1 B.2 V).2.1) X)) (fun _ _ => rfl) ?_
  refine eR.ifc rfl true rfl ?_
  refine eR.step 1 (F' := (154, [(0, .ref 3), (1, .int (nI ((fw d B.1 B.2 V).2.2.1))), (2, .int (nI 0))], [.int (nI ((fw d B.1 B.2 V).2.2.1))])) (h' := (Gc L xs (A.1, 0) (B.1, 0) (fw d A.1 A.2 U) (fw d B.1 B.2 V) S (fr_ (ad d (fw d A.1 A.2 U).1 (fw d B.1 B.2 V).2.2.1 (fw d A.1 A.2 U).2.2.2) (fw d B.1 B.2 V).1 (fw d B.1 B.2 V).2.1) X)) (fun _ _ => rfl) ?_
  exact eR.ret rfl rfl rfl

