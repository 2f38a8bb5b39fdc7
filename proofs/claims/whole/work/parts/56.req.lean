theorem Gc_top (L : Nat) (xs : Nat → Int32) (A B : gT) (U V : gU) (S : gS) (d : Nat → Nat) (X : mj_H) (c : mj_C) : (Gc L xs A B U V S d (X ++ [c]))[23 + X.length]? = some c := by
  have e : Gc L xs A B U V S d (X ++ [c]) = Gc L xs A B U V S d X ++ [c] := rfl
  rw [e, ← Gc_len L xs A B U V S d X]
  simp
theorem c_reqClean {cm sm fr lo L : Nat} {xs : Nat → Int32} {A B : gT} {U V : gU} {S : gS} {d : Nat → Nat} {X : mj_H} (hlo : 21 ≤ lo) (hd : dk d) (h0 : d 11 ≠ 0) : eE mm_P cm sm (fr + 2) lo 73 [.ref 3] (Gc L xs A B U V S d X) (.inl (none), (Gc L xs A B U V S d X)) := by
  refine eE.of ?_
  refine eR.step 3 (F' := (6, [(0, .ref 3)], [.int (nI 11), .ref 4])) (h' := (Gc L xs A B U V S d X)) (fun _ _ => rfl) ?_
  have h6 := hd.1 11
  refine eR.call (k' := 20) (as := [.ref 4, .int (nI 11)]) (rest := []) (v := some (.int (nI (d 11)))) (h1 := (Gc L xs A B U V S d X)) rfl rfl rfl rfl (eg (Nat.le_of_ble_eq_true rfl) (show 21 ≤ lo by omega) (Nat.le_of_ble_eq_true rfl)) (c_get hd (by decide)) ?_
  refine eR.ifc rfl true ((nc_ne (b := 0) (by omega) (by decide)).trans (decide_eq_true (by omega))) ?_
  exact eR.ret rfl rfl rfl
theorem c_reqCleanT {cm sm fr lo L : Nat} {xs : Nat → Int32} {A B : gT} {U V : gU} {S : gS} {d : Nat → Nat} {X : mj_H} (hlo : 101 ≤ lo) (hr : gR cm sm L X) (hd : dk d) (h0 : d 11 = 0) : eE mm_P cm sm (fr + 6) lo 73 [.ref 3] (Gc L xs A B U V S d X) (.inr (23 + X.length), (Gc L xs A B U V S d (X ++ [.inr (0, [])]))) := by
  refine eE.of ?_
  refine eR.step 3 (F' := (6, [(0, .ref 3)], [.int (nI 11), .ref 4])) (h' := (Gc L xs A B U V S d X)) (fun _ _ => rfl) ?_
  have h6 := hd.1 11
  refine eR.call (k' := 20) (as := [.ref 4, .int (nI 11)]) (rest := []) (v := some (.int (nI (d 11)))) (h1 := (Gc L xs A B U V S d X)) rfl rfl rfl rfl (eg (Nat.le_of_ble_eq_true rfl) (show 21 ≤ lo by omega) (Nat.le_of_ble_eq_true rfl)) (c_get hd (by decide)) ?_
  refine eR.ifc rfl false ((nc_ne (b := 0) (by omega) (by decide)).trans (decide_eq_false (by omega))) ?_
  exact thrG (cx := 0) rfl rfl rfl rfl rfl rfl rfl (by omega) (by omega) hr
theorem c_reqInode {cm sm fr lo L : Nat} {xs : Nat → Int32} {A B : gT} {U V : gU} {S : gS} {d : Nat → Nat} {X : mj_H} (hlo : 45 ≤ lo) (hd : dk d) (h0 : cf d 1 1 15 ≠ 0) : eE mm_P cm sm (fr + 3) lo 74 [.ref 3] (Gc L xs A B U V S d X) (.inl (none), (Gc L xs A B U V S d X)) := by
  refine eE.of ?_
  refine eR.step 2 (F' := (4, [(0, .ref 3)], [.ref 6])) (h' := (Gc L xs A B U V S d X)) (fun _ _ => rfl) ?_
  have h6 := cf_le d 1 15 1
  refine eR.call (k' := 62) (as := [.ref 6]) (rest := []) (v := some (.int (nI (cf d 1 1 15)))) (h1 := (Gc L xs A B U V S d X)) rfl rfl rfl rfl (eg (Nat.le_of_ble_eq_true rfl) (show 22 ≤ lo by omega) (Nat.le_of_ble_eq_true rfl)) (c_left_6 (show 23 ≤ lo - 22 by omega) hd) ?_
  refine eR.ifc rfl true ((nc_ne (b := 0) (by omega) (by decide)).trans (decide_eq_true (by omega))) ?_
  exact eR.ret rfl rfl rfl
theorem c_reqInodeT {cm sm fr lo L : Nat} {xs : Nat → Int32} {A B : gT} {U V : gU} {S : gS} {d : Nat → Nat} {X : mj_H} (hlo : 101 ≤ lo) (hr : gR cm sm L X) (hd : dk d) (h0 : cf d 1 1 15 = 0) : eE mm_P cm sm (fr + 6) lo 74 [.ref 3] (Gc L xs A B U V S d X) (.inr (23 + X.length), (Gc L xs A B U V S d (X ++ [.inr (0, [])]))) := by
  refine eE.of ?_
  refine eR.step 2 (F' := (4, [(0, .ref 3)], [.ref 6])) (h' := (Gc L xs A B U V S d X)) (fun _ _ => rfl) ?_
  have h6 := cf_le d 1 15 1
  refine eR.call (k' := 62) (as := [.ref 6]) (rest := []) (v := some (.int (nI (cf d 1 1 15)))) (h1 := (Gc L xs A B U V S d X)) rfl rfl rfl rfl (eg (Nat.le_of_ble_eq_true rfl) (show 22 ≤ lo by omega) (Nat.le_of_ble_eq_true rfl)) (c_left_6 (show 23 ≤ lo - 22 by omega) hd) ?_
  refine eR.ifc rfl false ((nc_ne (b := 0) (by omega) (by decide)).trans (decide_eq_false (by omega))) ?_
  exact thrG (cx := 0) rfl rfl rfl rfl rfl rfl rfl (by omega) (by omega) hr
theorem c_reqNew {cm sm fr lo L : Nat} {xs : Nat → Int32} {A B : gT} {U V : gU} {S : gS} {d : Nat → Nat} {X : mj_H} (hlo : 41 ≤ lo) (hd : dk d) (h0 : d 11 ≠ 0) (h1 : U.1 ≠ 0) (hU : U.1 < 2 ^ 20) : eE mm_P cm sm (fr + 3) lo 72 [.ref 3] (Gc L xs A B U V S d X) (.inl (none), (Gc L xs A B U V S d X)) := by
  refine eE.of ?_
  refine eR.step 1 (F' := (1, [(0, .ref 3)], [.ref 3])) (h' := (Gc L xs A B U V S d X)) (fun _ _ => rfl) ?_
  refine eR.call (k' := 73) (as := [.ref 3]) (rest := []) (v := none) (h1 := (Gc L xs A B U V S d X)) rfl rfl rfl rfl (eg (Nat.le_of_ble_eq_true rfl) (show 20 ≤ lo by omega) (Nat.le_of_ble_eq_true rfl)) (c_reqClean (show 21 ≤ lo - 20 by omega) hd h0) ?_
  refine eR.step 3 (F' := (11, [(0, .ref 3)], [.int (nI (U.1))])) (h' := (Gc L xs A B U V S d X)) (fun _ _ => rfl) ?_
  refine eR.ifc rfl true ((nc_ne (b := 0) (by omega) (by decide)).trans (decide_eq_true (by omega))) ?_
  exact eR.ret rfl rfl rfl
theorem c_reqNewT1 {cm sm fr lo L : Nat} {xs : Nat → Int32} {A B : gT} {U V : gU} {S : gS} {d : Nat → Nat} {X : mj_H} (hlo : 101 ≤ lo) (hr : gR cm sm L X) (hd : dk d) (h0 : d 11 ≠ 0) (h1 : U.1 = 0) : eE mm_P cm sm (fr + 6) lo 72 [.ref 3] (Gc L xs A B U V S d X) (.inr (23 + X.length), (Gc L xs A B U V S d (X ++ [.inr (1, [])]))) := by
  refine eE.of ?_
  refine eR.step 1 (F' := (1, [(0, .ref 3)], [.ref 3])) (h' := (Gc L xs A B U V S d X)) (fun _ _ => rfl) ?_
  refine eR.call (k' := 73) (as := [.ref 3]) (rest := []) (v := none) (h1 := (Gc L xs A B U V S d X)) rfl rfl rfl rfl (eg (Nat.le_of_ble_eq_true rfl) (show 20 ≤ lo by omega) (Nat.le_of_ble_eq_true rfl)) (c_reqClean (show 21 ≤ lo - 20 by omega) hd h0) ?_
  refine eR.step 3 (F' := (11, [(0, .ref 3)], [.int (nI (U.1))])) (h' := (Gc L xs A B U V S d X)) (fun _ _ => rfl) ?_
  refine eR.ifc rfl false ((nc_ne (b := 0) (by omega) (by decide)).trans (decide_eq_false (by omega))) ?_
  exact thrG (cx := 1) rfl rfl rfl rfl rfl rfl rfl (by omega) (by omega) hr
theorem c_reqNewT0 {cm sm fr lo L : Nat} {xs : Nat → Int32} {A B : gT} {U V : gU} {S : gS} {d : Nat → Nat} {X : mj_H} (hlo : 121 ≤ lo) (hr : gR cm sm L X) (hd : dk d) (h0 : d 11 = 0) : eE mm_P cm sm (fr + 7) lo 72 [.ref 3] (Gc L xs A B U V S d X) (.inr (23 + X.length), (Gc L xs A B U V S d (X ++ [.inr (0, [])]))) := by
  refine eE.of ?_
  refine eR.step 1 (F' := (1, [(0, .ref 3)], [.ref 3])) (h' := (Gc L xs A B U V S d X)) (fun _ _ => rfl) ?_
  exact eR.callU (k' := 73) (as := [.ref 3]) (rest := []) (cx := 0) (fs := []) (h1 := (Gc L xs A B U V S d (X ++ [.inr (0, [])]))) rfl rfl rfl rfl (eg (Nat.le_of_ble_eq_true rfl) (show 20 ≤ lo by omega) (Nat.le_of_ble_eq_true rfl)) (c_reqCleanT (show 101 ≤ lo - 20 by omega) hr hd h0) (Gc_top ..) rfl rfl rfl
theorem c_reqSlot {cm sm fr lo L : Nat} {xs : Nat → Int32} {A B : gT} {U V : gU} {S : gS} {d : Nat → Nat} {X : mj_H} (hlo : 115 ≤ lo) (hd : dk d) (hU : U.1 < 2 ^ 20) {v : Nat} (hv : v < 2 ^ 20) (h1 : U.2.2.1 = 0) (h2 : hr d U.1 v = true) : eE mm_P cm sm (fr + 6) lo 75 [.ref 3, .int (nI (v))] (Gc L xs A B U V S d X) (.inl (none), (Gc L xs A B U V S d X)) := by
  refine eE.of ?_
  refine eR.step 3 (F' := (7, [(0, .ref 3), (1, .int (nI (v)))], [.int (nI (U.2.2.1))])) (h' := (Gc L xs A B U V S d X)) (fun _ _ => rfl) ?_
  refine eR.ifc rfl true ((nc_eq (b := 0) (by omega) (by decide)).trans (decide_eq_true (by omega))) ?_
  refine eR.step 6 (F' := (33, [(0, .ref 3), (1, .int (nI (v)))], [.int (nI (v)), .int (nI (U.1)), .ref 9])) (h' := (Gc L xs A B U V S d X)) (fun _ _ => rfl) ?_
  refine eR.call (k' := 76) (as := [.ref 9, .int (nI (U.1)), .int (nI (v))]) (rest := []) (v := some (.int (nI (bi (hr d U.1 v))))) (h1 := (Gc L xs A B U V S d X)) rfl rfl rfl rfl (eg (Nat.le_of_ble_eq_true rfl) (show 24 ≤ lo by omega) (Nat.le_of_ble_eq_true rfl)) (c_hasRoom (show 91 ≤ lo - 24 by omega) hd hU hv) ?_
  rw [bj_t h2]
  refine eR.ifc rfl true rfl ?_
  exact eR.ret rfl rfl rfl
theorem c_reqSlotT2 {cm sm fr lo L : Nat} {xs : Nat → Int32} {A B : gT} {U V : gU} {S : gS} {d : Nat → Nat} {X : mj_H} (hlo : 115 ≤ lo) (hR : gR cm sm L X) (hd : dk d) (hU : U.1 < 2 ^ 20) {v : Nat} (hv : v < 2 ^ 20) (h1 : U.2.2.1 = 0) (h2 : ¬ hr d U.1 v = true) : eE mm_P cm sm (fr + 6) lo 75 [.ref 3, .int (nI (v))] (Gc L xs A B U V S d X) (.inr (23 + X.length), (Gc L xs A B U V S d (X ++ [.inr (0, [])]))) := by
  refine eE.of ?_
  refine eR.step 3 (F' := (7, [(0, .ref 3), (1, .int (nI (v)))], [.int (nI (U.2.2.1))])) (h' := (Gc L xs A B U V S d X)) (fun _ _ => rfl) ?_
  refine eR.ifc rfl true ((nc_eq (b := 0) (by omega) (by decide)).trans (decide_eq_true (by omega))) ?_
  refine eR.step 6 (F' := (33, [(0, .ref 3), (1, .int (nI (v)))], [.int (nI (v)), .int (nI (U.1)), .ref 9])) (h' := (Gc L xs A B U V S d X)) (fun _ _ => rfl) ?_
  refine eR.call (k' := 76) (as := [.ref 9, .int (nI (U.1)), .int (nI (v))]) (rest := []) (v := some (.int (nI (bi (hr d U.1 v))))) (h1 := (Gc L xs A B U V S d X)) rfl rfl rfl rfl (eg (Nat.le_of_ble_eq_true rfl) (show 24 ≤ lo by omega) (Nat.le_of_ble_eq_true rfl)) (c_hasRoom (show 91 ≤ lo - 24 by omega) hd hU hv) ?_
  rw [bj_f h2]
  refine eR.ifc rfl false rfl ?_
  exact thrG (cx := 0) rfl rfl rfl rfl rfl rfl rfl (by omega) (by omega) hR
theorem c_reqSlotT1 {cm sm fr lo L : Nat} {xs : Nat → Int32} {A B : gT} {U V : gU} {S : gS} {d : Nat → Nat} {X : mj_H} (hlo : 115 ≤ lo) (hr : gR cm sm L X) (h1 : U.2.2.1 ≠ 0) (h2 : U.2.2.1 < 2 ^ 20) {v : Nat} : eE mm_P cm sm (fr + 6) lo 75 [.ref 3, .int (nI (v))] (Gc L xs A B U V S d X) (.inr (23 + X.length), (Gc L xs A B U V S d (X ++ [.inr (0, [])]))) := by
  refine eE.of ?_
  refine eR.step 3 (F' := (7, [(0, .ref 3), (1, .int (nI (v)))], [.int (nI (U.2.2.1))])) (h' := (Gc L xs A B U V S d X)) (fun _ _ => rfl) ?_
  refine eR.ifc rfl false ((nc_eq (b := 0) (by omega) (by decide)).trans (decide_eq_false (by omega))) ?_
  exact thrG (cx := 0) rfl rfl rfl rfl rfl rfl rfl (by omega) (by omega) hr

