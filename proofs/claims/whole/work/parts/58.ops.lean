theorem c_create {cm sm fr lo L : Nat} {xs : Nat → Int32} {A B : gT} {U V : gU} {S : gS} {d : Nat → Nat} {X : mj_H} (hlo : 136 ≤ lo) (hd : dk d) (ht : ∀ k, A.1 k < 65536) (hl : A.2 ≤ 40) (hn : ∀ k, U.2.2.2 k < 128) (h0 : d 11 ≠ 0) (h1 : (fw d A.1 A.2 U).1 ≠ 0) (h2 : cf d 1 1 15 ≠ 0) (h3 : (fw d A.1 A.2 U).2.2.1 = 0) (h4 : hr d (fw d A.1 A.2 U).1 0 = true) : eE mm_P cm sm (fr + 7) lo 63 [.ref 3] (Gc L xs A B U V S d X) (.inl (some (.int (nI (lw d 1 1 15)))), (Gc L xs (A.1, 0) B (fw d A.1 A.2 U) V S (ad (ti d 1) (fw d A.1 A.2 U).1 (lw d 1 1 15) (fw d A.1 A.2 U).2.2.2) X)) := by
  refine eE.of ?_
  refine eR.step 1 (F' := (1, [(0, .ref 3)], [.ref 3])) (h' := (Gc L xs A B U V S d X)) (fun _ _ => rfl) ?_
  have hk := fw_pk (t := A.1) (l := A.2) hd hn
  have hp : (fw d A.1 A.2 U).1 < 2 ^ 20 := Nat.lt_trans hk.1 (by decide)
  refine eR.call (k' := 64) (as := [.ref 3]) (rest := []) (v := none) (h1 := (Gc L xs (A.1, 0) B (fw d A.1 A.2 U) V S d X)) rfl rfl rfl rfl (eg (Nat.le_of_ble_eq_true rfl) (show 20 ≤ lo by omega) (Nat.le_of_ble_eq_true rfl)) (c_takePath_15 (show 112 ≤ lo - 20 by omega) hd ht hl hn) ?_
  refine eR.step 1 (F' := (5, [(0, .ref 3)], [.ref 3])) (h' := (Gc L xs (A.1, 0) B (fw d A.1 A.2 U) V S d X)) (fun _ _ => rfl) ?_
  have hw : lw d 1 1 15 < 2 ^ 20 := by rcases lw_lt d 1 15 1 with h | h <;> omega
  refine eR.call (k' := 72) (as := [.ref 3]) (rest := []) (v := none) (h1 := (Gc L xs (A.1, 0) B (fw d A.1 A.2 U) V S d X)) rfl rfl rfl rfl (eg (Nat.le_of_ble_eq_true rfl) (show 20 ≤ lo by omega) (Nat.le_of_ble_eq_true rfl)) (c_reqNew (U := (fw d A.1 A.2 U)) (show 41 ≤ lo - 20 by omega) hd h0 h1 hp) ?_
  refine eR.step 1 (F' := (9, [(0, .ref 3)], [.ref 3])) (h' := (Gc L xs (A.1, 0) B (fw d A.1 A.2 U) V S d X)) (fun _ _ => rfl) ?_
  refine eR.call (k' := 74) (as := [.ref 3]) (rest := []) (v := none) (h1 := (Gc L xs (A.1, 0) B (fw d A.1 A.2 U) V S d X)) rfl rfl rfl rfl (eg (Nat.le_of_ble_eq_true rfl) (show 20 ≤ lo by omega) (Nat.le_of_ble_eq_true rfl)) (c_reqInode (show 45 ≤ lo - 20 by omega) hd h2) ?_
  refine eR.step 2 (F' := (14, [(0, .ref 3)], [.int (nI 0), .ref 3])) (h' := (Gc L xs (A.1, 0) B (fw d A.1 A.2 U) V S d X)) (fun _ _ => rfl) ?_
  refine eR.call (k' := 75) (as := [.ref 3, .int (nI 0)]) (rest := []) (v := none) (h1 := (Gc L xs (A.1, 0) B (fw d A.1 A.2 U) V S d X)) rfl rfl rfl rfl (eg (Nat.le_of_ble_eq_true rfl) (show 21 ≤ lo by omega) (Nat.le_of_ble_eq_true rfl)) (c_reqSlot (U := (fw d A.1 A.2 U)) (show 115 ≤ lo - 21 by omega) hd hp (by decide) h3 h4) ?_
  refine eR.step 3 (F' := (22, [(0, .ref 3)], [.int (nI 1), .ref 8])) (h' := (Gc L xs (A.1, 0) B (fw d A.1 A.2 U) V S d X)) (fun _ _ => rfl) ?_
  refine eR.call (k' := 13) (as := [.ref 8, .int (nI 1)]) (rest := []) (v := some (.int (nI (lw d 1 1 15)))) (h1 := (Gc L xs (A.1, 0) B (fw d A.1 A.2 U) V S (ti d 1) X)) rfl rfl rfl rfl (eg (Nat.le_of_ble_eq_true rfl) (show 22 ≤ lo by omega) (Nat.le_of_ble_eq_true rfl)) (c_take (show 44 ≤ lo - 22 by omega) hd) ?_
  refine eR.step 10 (F' := (45, [(0, .ref 3), (1, .int (nI (lw d 1 1 15)))], [.ref 20, .int (nI (lw d 1 1 15)), .int (nI ((fw d A.1 A.2 U).1)), .ref 9])) (h' := (Gc L xs (A.1, 0) B (fw d A.1 A.2 U) V S (ti d 1) X)) (fun _ _ => rfl) ?_
  refine eR.call (k' := 80) (as := [.ref 9, .int (nI ((fw d A.1 A.2 U).1)), .int (nI (lw d 1 1 15)), .ref 20]) (rest := []) (v := none) (h1 := (Gc L xs (A.1, 0) B (fw d A.1 A.2 U) V S (ad (ti d 1) (fw d A.1 A.2 U).1 (lw d 1 1 15) (fw d A.1 A.2 U).2.2.2) X)) rfl rfl rfl rfl (eg (Nat.le_of_ble_eq_true rfl) (show 24 ≤ lo by omega) (Nat.le_of_ble_eq_true rfl)) (c_add (U := (fw d A.1 A.2 U)) (show 92 ≤ lo - 24 by omega) (ti_dk hd 1) hk.2.2.2 hp hw) ?_
  refine eR.step 1 (F' := (49, [(0, .ref 3), (1, .int (nI (lw d 1 1 15)))], [.int (nI (lw d 1 1 15))])) (h' := (Gc L xs (A.1, 0) B (fw d A.1 A.2 U) V S (ad (ti d 1) (fw d A.1 A.2 U).1 (lw d 1 1 15) (fw d A.1 A.2 U).2.2.2) X)) (fun _ _ => rfl) ?_
  exact eR.ret rfl rfl rfl
theorem c_createT0 {cm sm fr lo L : Nat} {xs : Nat → Int32} {A B : gT} {U V : gU} {S : gS} {d : Nat → Nat} {X : mj_H} (hlo : 200 ≤ lo) (hR : gR cm sm L X) (hd : dk d) (ht : ∀ k, A.1 k < 65536) (hl : A.2 ≤ 40) (hn : ∀ k, U.2.2.2 k < 128) (h0 : d 11 = 0) : eE mm_P cm sm (fr + 8) lo 63 [.ref 3] (Gc L xs A B U V S d X) (.inr (23 + X.length), (Gc L xs (A.1, 0) B (fw d A.1 A.2 U) V S d (X ++ [.inr (0, [])]))) := by
  refine eE.of ?_
  refine eR.step 1 (F' := (1, [(0, .ref 3)], [.ref 3])) (h' := (Gc L xs A B U V S d X)) (fun _ _ => rfl) ?_
  have hk := fw_pk (t := A.1) (l := A.2) hd hn
  have hp : (fw d A.1 A.2 U).1 < 2 ^ 20 := Nat.lt_trans hk.1 (by decide)
  refine eR.call (k' := 64) (as := [.ref 3]) (rest := []) (v := none) (h1 := (Gc L xs (A.1, 0) B (fw d A.1 A.2 U) V S d X)) rfl rfl rfl rfl (eg (Nat.le_of_ble_eq_true rfl) (show 20 ≤ lo by omega) (Nat.le_of_ble_eq_true rfl)) (c_takePath_15 (show 112 ≤ lo - 20 by omega) hd ht hl hn) ?_
  refine eR.step 1 (F' := (5, [(0, .ref 3)], [.ref 3])) (h' := (Gc L xs (A.1, 0) B (fw d A.1 A.2 U) V S d X)) (fun _ _ => rfl) ?_
  exact eR.callU (k' := 72) (as := [.ref 3]) (rest := []) (cx := 0) (fs := []) (h1 := (Gc L xs (A.1, 0) B (fw d A.1 A.2 U) V S d (X ++ [.inr (0, [])]))) rfl rfl rfl rfl (eg (Nat.le_of_ble_eq_true rfl) (show 20 ≤ lo by omega) (Nat.le_of_ble_eq_true rfl)) (c_reqNewT0 (U := (fw d A.1 A.2 U)) (show 121 ≤ lo - 20 by omega) hR hd h0) (Gc_top ..) rfl rfl rfl
theorem c_createT1 {cm sm fr lo L : Nat} {xs : Nat → Int32} {A B : gT} {U V : gU} {S : gS} {d : Nat → Nat} {X : mj_H} (hlo : 200 ≤ lo) (hR : gR cm sm L X) (hd : dk d) (ht : ∀ k, A.1 k < 65536) (hl : A.2 ≤ 40) (hn : ∀ k, U.2.2.2 k < 128) (h0 : d 11 ≠ 0) (h1 : (fw d A.1 A.2 U).1 = 0) : eE mm_P cm sm (fr + 8) lo 63 [.ref 3] (Gc L xs A B U V S d X) (.inr (23 + X.length), (Gc L xs (A.1, 0) B (fw d A.1 A.2 U) V S d (X ++ [.inr (1, [])]))) := by
  refine eE.of ?_
  refine eR.step 1 (F' := (1, [(0, .ref 3)], [.ref 3])) (h' := (Gc L xs A B U V S d X)) (fun _ _ => rfl) ?_
  have hk := fw_pk (t := A.1) (l := A.2) hd hn
  have hp : (fw d A.1 A.2 U).1 < 2 ^ 20 := Nat.lt_trans hk.1 (by decide)
  refine eR.call (k' := 64) (as := [.ref 3]) (rest := []) (v := none) (h1 := (Gc L xs (A.1, 0) B (fw d A.1 A.2 U) V S d X)) rfl rfl rfl rfl (eg (Nat.le_of_ble_eq_true rfl) (show 20 ≤ lo by omega) (Nat.le_of_ble_eq_true rfl)) (c_takePath_15 (show 112 ≤ lo - 20 by omega) hd ht hl hn) ?_
  refine eR.step 1 (F' := (5, [(0, .ref 3)], [.ref 3])) (h' := (Gc L xs (A.1, 0) B (fw d A.1 A.2 U) V S d X)) (fun _ _ => rfl) ?_
  exact eR.callU (k' := 72) (as := [.ref 3]) (rest := []) (cx := 1) (fs := []) (h1 := (Gc L xs (A.1, 0) B (fw d A.1 A.2 U) V S d (X ++ [.inr (1, [])]))) rfl rfl rfl rfl (eg (Nat.le_of_ble_eq_true rfl) (show 20 ≤ lo by omega) (Nat.le_of_ble_eq_true rfl)) (c_reqNewT1 (U := (fw d A.1 A.2 U)) (show 101 ≤ lo - 20 by omega) hR hd h0 h1) (Gc_top ..) rfl rfl rfl
theorem c_createT2 {cm sm fr lo L : Nat} {xs : Nat → Int32} {A B : gT} {U V : gU} {S : gS} {d : Nat → Nat} {X : mj_H} (hlo : 200 ≤ lo) (hR : gR cm sm L X) (hd : dk d) (ht : ∀ k, A.1 k < 65536) (hl : A.2 ≤ 40) (hn : ∀ k, U.2.2.2 k < 128) (h0 : d 11 ≠ 0) (h1 : (fw d A.1 A.2 U).1 ≠ 0) (h2 : cf d 1 1 15 = 0) : eE mm_P cm sm (fr + 8) lo 63 [.ref 3] (Gc L xs A B U V S d X) (.inr (23 + X.length), (Gc L xs (A.1, 0) B (fw d A.1 A.2 U) V S d (X ++ [.inr (0, [])]))) := by
  refine eE.of ?_
  refine eR.step 1 (F' := (1, [(0, .ref 3)], [.ref 3])) (h' := (Gc L xs A B U V S d X)) (fun _ _ => rfl) ?_
  have hk := fw_pk (t := A.1) (l := A.2) hd hn
  have hp : (fw d A.1 A.2 U).1 < 2 ^ 20 := Nat.lt_trans hk.1 (by decide)
  refine eR.call (k' := 64) (as := [.ref 3]) (rest := []) (v := none) (h1 := (Gc L xs (A.1, 0) B (fw d A.1 A.2 U) V S d X)) rfl rfl rfl rfl (eg (Nat.le_of_ble_eq_true rfl) (show 20 ≤ lo by omega) (Nat.le_of_ble_eq_true rfl)) (c_takePath_15 (show 112 ≤ lo - 20 by omega) hd ht hl hn) ?_
  refine eR.step 1 (F' := (5, [(0, .ref 3)], [.ref 3])) (h' := (Gc L xs (A.1, 0) B (fw d A.1 A.2 U) V S d X)) (fun _ _ => rfl) ?_
  refine eR.call (k' := 72) (as := [.ref 3]) (rest := []) (v := none) (h1 := (Gc L xs (A.1, 0) B (fw d A.1 A.2 U) V S d X)) rfl rfl rfl rfl (eg (Nat.le_of_ble_eq_true rfl) (show 20 ≤ lo by omega) (Nat.le_of_ble_eq_true rfl)) (c_reqNew (U := (fw d A.1 A.2 U)) (show 41 ≤ lo - 20 by omega) hd h0 h1 hp) ?_
  refine eR.step 1 (F' := (9, [(0, .ref 3)], [.ref 3])) (h' := (Gc L xs (A.1, 0) B (fw d A.1 A.2 U) V S d X)) (fun _ _ => rfl) ?_
  exact eR.callU (k' := 74) (as := [.ref 3]) (rest := []) (cx := 0) (fs := []) (h1 := (Gc L xs (A.1, 0) B (fw d A.1 A.2 U) V S d (X ++ [.inr (0, [])]))) rfl rfl rfl rfl (eg (Nat.le_of_ble_eq_true rfl) (show 20 ≤ lo by omega) (Nat.le_of_ble_eq_true rfl)) (c_reqInodeT (show 101 ≤ lo - 20 by omega) hR hd h2) (Gc_top ..) rfl rfl rfl
theorem c_createT3 {cm sm fr lo L : Nat} {xs : Nat → Int32} {A B : gT} {U V : gU} {S : gS} {d : Nat → Nat} {X : mj_H} (hlo : 200 ≤ lo) (hR : gR cm sm L X) (hd : dk d) (ht : ∀ k, A.1 k < 65536) (hl : A.2 ≤ 40) (hn : ∀ k, U.2.2.2 k < 128) (h0 : d 11 ≠ 0) (h1 : (fw d A.1 A.2 U).1 ≠ 0) (h2 : cf d 1 1 15 ≠ 0) (h3 : (fw d A.1 A.2 U).2.2.1 ≠ 0) : eE mm_P cm sm (fr + 8) lo 63 [.ref 3] (Gc L xs A B U V S d X) (.inr (23 + X.length), (Gc L xs (A.1, 0) B (fw d A.1 A.2 U) V S d (X ++ [.inr (0, [])]))) := by
  refine eE.of ?_
  refine eR.step 1 (F' := (1, [(0, .ref 3)], [.ref 3])) (h' := (Gc L xs A B U V S d X)) (fun _ _ => rfl) ?_
  have hk := fw_pk (t := A.1) (l := A.2) hd hn
  have hp : (fw d A.1 A.2 U).1 < 2 ^ 20 := Nat.lt_trans hk.1 (by decide)
  refine eR.call (k' := 64) (as := [.ref 3]) (rest := []) (v := none) (h1 := (Gc L xs (A.1, 0) B (fw d A.1 A.2 U) V S d X)) rfl rfl rfl rfl (eg (Nat.le_of_ble_eq_true rfl) (show 20 ≤ lo by omega) (Nat.le_of_ble_eq_true rfl)) (c_takePath_15 (show 112 ≤ lo - 20 by omega) hd ht hl hn) ?_
  refine eR.step 1 (F' := (5, [(0, .ref 3)], [.ref 3])) (h' := (Gc L xs (A.1, 0) B (fw d A.1 A.2 U) V S d X)) (fun _ _ => rfl) ?_
  refine eR.call (k' := 72) (as := [.ref 3]) (rest := []) (v := none) (h1 := (Gc L xs (A.1, 0) B (fw d A.1 A.2 U) V S d X)) rfl rfl rfl rfl (eg (Nat.le_of_ble_eq_true rfl) (show 20 ≤ lo by omega) (Nat.le_of_ble_eq_true rfl)) (c_reqNew (U := (fw d A.1 A.2 U)) (show 41 ≤ lo - 20 by omega) hd h0 h1 hp) ?_
  refine eR.step 1 (F' := (9, [(0, .ref 3)], [.ref 3])) (h' := (Gc L xs (A.1, 0) B (fw d A.1 A.2 U) V S d X)) (fun _ _ => rfl) ?_
  refine eR.call (k' := 74) (as := [.ref 3]) (rest := []) (v := none) (h1 := (Gc L xs (A.1, 0) B (fw d A.1 A.2 U) V S d X)) rfl rfl rfl rfl (eg (Nat.le_of_ble_eq_true rfl) (show 20 ≤ lo by omega) (Nat.le_of_ble_eq_true rfl)) (c_reqInode (show 45 ≤ lo - 20 by omega) hd h2) ?_
  refine eR.step 2 (F' := (14, [(0, .ref 3)], [.int (nI 0), .ref 3])) (h' := (Gc L xs (A.1, 0) B (fw d A.1 A.2 U) V S d X)) (fun _ _ => rfl) ?_
  exact eR.callU (k' := 75) (as := [.ref 3, .int (nI 0)]) (rest := []) (cx := 0) (fs := []) (h1 := (Gc L xs (A.1, 0) B (fw d A.1 A.2 U) V S d (X ++ [.inr (0, [])]))) rfl rfl rfl rfl (eg (Nat.le_of_ble_eq_true rfl) (show 21 ≤ lo by omega) (Nat.le_of_ble_eq_true rfl)) (c_reqSlotT1 (U := (fw d A.1 A.2 U)) (show 115 ≤ lo - 21 by omega) hR h3 (Nat.lt_trans hk.2.2.1 (by decide))) (Gc_top ..) rfl rfl rfl
theorem c_createT4 {cm sm fr lo L : Nat} {xs : Nat → Int32} {A B : gT} {U V : gU} {S : gS} {d : Nat → Nat} {X : mj_H} (hlo : 200 ≤ lo) (hR : gR cm sm L X) (hd : dk d) (ht : ∀ k, A.1 k < 65536) (hl : A.2 ≤ 40) (hn : ∀ k, U.2.2.2 k < 128) (h0 : d 11 ≠ 0) (h1 : (fw d A.1 A.2 U).1 ≠ 0) (h2 : cf d 1 1 15 ≠ 0) (h3 : (fw d A.1 A.2 U).2.2.1 = 0) (h4 : ¬ hr d (fw d A.1 A.2 U).1 0 = true) : eE mm_P cm sm (fr + 8) lo 63 [.ref 3] (Gc L xs A B U V S d X) (.inr (23 + X.length), (Gc L xs (A.1, 0) B (fw d A.1 A.2 U) V S d (X ++ [.inr (0, [])]))) := by
  refine eE.of ?_
  refine eR.step 1 (F' := (1, [(0, .ref 3)], [.ref 3])) (h' := (Gc L xs A B U V S d X)) (fun _ _ => rfl) ?_
  have hk := fw_pk (t := A.1) (l := A.2) hd hn
  have hp : (fw d A.1 A.2 U).1 < 2 ^ 20 := Nat.lt_trans hk.1 (by decide)
  refine eR.call (k' := 64) (as := [.ref 3]) (rest := []) (v := none) (h1 := (Gc L xs (A.1, 0) B (fw d A.1 A.2 U) V S d X)) rfl rfl rfl rfl (eg (Nat.le_of_ble_eq_true rfl) (show 20 ≤ lo by omega) (Nat.le_of_ble_eq_true rfl)) (c_takePath_15 (show 112 ≤ lo - 20 by omega) hd ht hl hn) ?_
  refine eR.step 1 (F' := (5, [(0, .ref 3)], [.ref 3])) (h' := (Gc L xs (A.1, 0) B (fw d A.1 A.2 U) V S d X)) (fun _ _ => rfl) ?_
  refine eR.call (k' := 72) (as := [.ref 3]) (rest := []) (v := none) (h1 := (Gc L xs (A.1, 0) B (fw d A.1 A.2 U) V S d X)) rfl rfl rfl rfl (eg (Nat.le_of_ble_eq_true rfl) (show 20 ≤ lo by omega) (Nat.le_of_ble_eq_true rfl)) (c_reqNew (U := (fw d A.1 A.2 U)) (show 41 ≤ lo - 20 by omega) hd h0 h1 hp) ?_
  refine eR.step 1 (F' := (9, [(0, .ref 3)], [.ref 3])) (h' := (Gc L xs (A.1, 0) B (fw d A.1 A.2 U) V S d X)) (fun _ _ => rfl) ?_
  refine eR.call (k' := 74) (as := [.ref 3]) (rest := []) (v := none) (h1 := (Gc L xs (A.1, 0) B (fw d A.1 A.2 U) V S d X)) rfl rfl rfl rfl (eg (Nat.le_of_ble_eq_true rfl) (show 20 ≤ lo by omega) (Nat.le_of_ble_eq_true rfl)) (c_reqInode (show 45 ≤ lo - 20 by omega) hd h2) ?_
  refine eR.step 2 (F' := (14, [(0, .ref 3)], [.int (nI 0), .ref 3])) (h' := (Gc L xs (A.1, 0) B (fw d A.1 A.2 U) V S d X)) (fun _ _ => rfl) ?_
  exact eR.callU (k' := 75) (as := [.ref 3, .int (nI 0)]) (rest := []) (cx := 0) (fs := []) (h1 := (Gc L xs (A.1, 0) B (fw d A.1 A.2 U) V S d (X ++ [.inr (0, [])]))) rfl rfl rfl rfl (eg (Nat.le_of_ble_eq_true rfl) (show 21 ≤ lo by omega) (Nat.le_of_ble_eq_true rfl)) (c_reqSlotT2 (U := (fw d A.1 A.2 U)) (show 115 ≤ lo - 21 by omega) hR hd hp (by decide) h3 h4) (Gc_top ..) rfl rfl rfl
theorem c_mkdir {cm sm fr lo L : Nat} {xs : Nat → Int32} {A B : gT} {U V : gU} {S : gS} {d : Nat → Nat} {X : mj_H} (hlo : 136 ≤ lo) (hd : dk d) (ht : ∀ k, A.1 k < 65536) (hl : A.2 ≤ 40) (hn : ∀ k, U.2.2.2 k < 128) (h0 : d 11 ≠ 0) (h1 : (fw d A.1 A.2 U).1 ≠ 0) (h2 : cf d 1 1 15 ≠ 0) (h3 : (fw d A.1 A.2 U).2.2.1 = 0) (h4 : hr d (fw d A.1 A.2 U).1 1 = true) : eE mm_P cm sm (fr + 7) lo 81 [.ref 3] (Gc L xs A B U V S d X) (.inl (some (.int (nI (lw d 1 1 15)))), (Gc L xs (A.1, 0) B (fw d A.1 A.2 U) V S (ad (sd (ti d 2) (lw d 1 1 15) (fw d A.1 A.2 U).1) (fw d A.1 A.2 U).1 (lw d 1 1 15) (fw d A.1 A.2 U).2.2.2) X)) := by
  refine eE.of ?_
  refine eR.step 1 (F' := (1, [(0, .ref 3)], [.ref 3])) (h' := (Gc L xs A B U V S d X)) (fun _ _ => rfl) ?_
  have hk := fw_pk (t := A.1) (l := A.2) hd hn
  have hp : (fw d A.1 A.2 U).1 < 2 ^ 20 := Nat.lt_trans hk.1 (by decide)
  refine eR.call (k' := 64) (as := [.ref 3]) (rest := []) (v := none) (h1 := (Gc L xs (A.1, 0) B (fw d A.1 A.2 U) V S d X)) rfl rfl rfl rfl (eg (Nat.le_of_ble_eq_true rfl) (show 20 ≤ lo by omega) (Nat.le_of_ble_eq_true rfl)) (c_takePath_15 (show 112 ≤ lo - 20 by omega) hd ht hl hn) ?_
  refine eR.step 1 (F' := (5, [(0, .ref 3)], [.ref 3])) (h' := (Gc L xs (A.1, 0) B (fw d A.1 A.2 U) V S d X)) (fun _ _ => rfl) ?_
  have hw : lw d 1 1 15 < 2 ^ 20 := by rcases lw_lt d 1 15 1 with h | h <;> omega
  refine eR.call (k' := 72) (as := [.ref 3]) (rest := []) (v := none) (h1 := (Gc L xs (A.1, 0) B (fw d A.1 A.2 U) V S d X)) rfl rfl rfl rfl (eg (Nat.le_of_ble_eq_true rfl) (show 20 ≤ lo by omega) (Nat.le_of_ble_eq_true rfl)) (c_reqNew (U := (fw d A.1 A.2 U)) (show 41 ≤ lo - 20 by omega) hd h0 h1 hp) ?_
  refine eR.step 1 (F' := (9, [(0, .ref 3)], [.ref 3])) (h' := (Gc L xs (A.1, 0) B (fw d A.1 A.2 U) V S d X)) (fun _ _ => rfl) ?_
  refine eR.call (k' := 74) (as := [.ref 3]) (rest := []) (v := none) (h1 := (Gc L xs (A.1, 0) B (fw d A.1 A.2 U) V S d X)) rfl rfl rfl rfl (eg (Nat.le_of_ble_eq_true rfl) (show 20 ≤ lo by omega) (Nat.le_of_ble_eq_true rfl)) (c_reqInode (show 45 ≤ lo - 20 by omega) hd h2) ?_
  refine eR.step 2 (F' := (14, [(0, .ref 3)], [.int (nI 1), .ref 3])) (h' := (Gc L xs (A.1, 0) B (fw d A.1 A.2 U) V S d X)) (fun _ _ => rfl) ?_
  refine eR.call (k' := 75) (as := [.ref 3, .int (nI 1)]) (rest := []) (v := none) (h1 := (Gc L xs (A.1, 0) B (fw d A.1 A.2 U) V S d X)) rfl rfl rfl rfl (eg (Nat.le_of_ble_eq_true rfl) (show 21 ≤ lo by omega) (Nat.le_of_ble_eq_true rfl)) (c_reqSlot (U := (fw d A.1 A.2 U)) (show 115 ≤ lo - 21 by omega) hd hp (by decide) h3 h4) ?_
  refine eR.step 3 (F' := (22, [(0, .ref 3)], [.int (nI 2), .ref 8])) (h' := (Gc L xs (A.1, 0) B (fw d A.1 A.2 U) V S d X)) (fun _ _ => rfl) ?_
  refine eR.call (k' := 13) (as := [.ref 8, .int (nI 2)]) (rest := []) (v := some (.int (nI (lw d 1 1 15)))) (h1 := (Gc L xs (A.1, 0) B (fw d A.1 A.2 U) V S (ti d 2) X)) rfl rfl rfl rfl (eg (Nat.le_of_ble_eq_true rfl) (show 22 ≤ lo by omega) (Nat.le_of_ble_eq_true rfl)) (c_take (show 44 ≤ lo - 22 by omega) hd) ?_
  refine eR.step 7 (F' := (38, [(0, .ref 3), (1, .int (nI (lw d 1 1 15)))], [.int (nI ((fw d A.1 A.2 U).1)), .int (nI (lw d 1 1 15)), .ref 9])) (h' := (Gc L xs (A.1, 0) B (fw d A.1 A.2 U) V S (ti d 2) X)) (fun _ _ => rfl) ?_
  refine eR.call (k' := 17) (as := [.ref 9, .int (nI (lw d 1 1 15)), .int (nI ((fw d A.1 A.2 U).1))]) (rest := []) (v := none) (h1 := (Gc L xs (A.1, 0) B (fw d A.1 A.2 U) V S (sd (ti d 2) (lw d 1 1 15) (fw d A.1 A.2 U).1) X)) rfl rfl rfl rfl (eg (Nat.le_of_ble_eq_true rfl) (show 22 ≤ lo by omega) (Nat.le_of_ble_eq_true rfl)) (c_startD (show 92 ≤ lo - 22 by omega) (ti_dk hd 2) hw hp) ?_
  refine eR.step 9 (F' := (60, [(0, .ref 3), (1, .int (nI (lw d 1 1 15)))], [.ref 20, .int (nI (lw d 1 1 15)), .int (nI ((fw d A.1 A.2 U).1)), .ref 9])) (h' := (Gc L xs (A.1, 0) B (fw d A.1 A.2 U) V S (sd (ti d 2) (lw d 1 1 15) (fw d A.1 A.2 U).1) X)) (fun _ _ => rfl) ?_
  refine eR.call (k' := 80) (as := [.ref 9, .int (nI ((fw d A.1 A.2 U).1)), .int (nI (lw d 1 1 15)), .ref 20]) (rest := []) (v := none) (h1 := (Gc L xs (A.1, 0) B (fw d A.1 A.2 U) V S (ad (sd (ti d 2) (lw d 1 1 15) (fw d A.1 A.2 U).1) (fw d A.1 A.2 U).1 (lw d 1 1 15) (fw d A.1 A.2 U).2.2.2) X)) rfl rfl rfl rfl (eg (Nat.le_of_ble_eq_true rfl) (show 24 ≤ lo by omega) (Nat.le_of_ble_eq_true rfl)) (c_add (U := (fw d A.1 A.2 U)) (show 92 ≤ lo - 24 by omega) (sd_dk (ti_dk hd 2) _ _) hk.2.2.2 hp hw) ?_
  refine eR.step 1 (F' := (64, [(0, .ref 3), (1, .int (nI (lw d 1 1 15)))], [.int (nI (lw d 1 1 15))])) (h' := (Gc L xs (A.1, 0) B (fw d A.1 A.2 U) V S (ad (sd (ti d 2) (lw d 1 1 15) (fw d A.1 A.2 U).1) (fw d A.1 A.2 U).1 (lw d 1 1 15) (fw d A.1 A.2 U).2.2.2) X)) (fun _ _ => rfl) ?_
  exact eR.ret rfl rfl rfl
theorem c_mkdirT0 {cm sm fr lo L : Nat} {xs : Nat → Int32} {A B : gT} {U V : gU} {S : gS} {d : Nat → Nat} {X : mj_H} (hlo : 200 ≤ lo) (hR : gR cm sm L X) (hd : dk d) (ht : ∀ k, A.1 k < 65536) (hl : A.2 ≤ 40) (hn : ∀ k, U.2.2.2 k < 128) (h0 : d 11 = 0) : eE mm_P cm sm (fr + 8) lo 81 [.ref 3] (Gc L xs A B U V S d X) (.inr (23 + X.length), (Gc L xs (A.1, 0) B (fw d A.1 A.2 U) V S d (X ++ [.inr (0, [])]))) := by
  refine eE.of ?_
  refine eR.step 1 (F' := (1, [(0, .ref 3)], [.ref 3])) (h' := (Gc L xs A B U V S d X)) (fun _ _ => rfl) ?_
  have hk := fw_pk (t := A.1) (l := A.2) hd hn
  have hp : (fw d A.1 A.2 U).1 < 2 ^ 20 := Nat.lt_trans hk.1 (by decide)
  refine eR.call (k' := 64) (as := [.ref 3]) (rest := []) (v := none) (h1 := (Gc L xs (A.1, 0) B (fw d A.1 A.2 U) V S d X)) rfl rfl rfl rfl (eg (Nat.le_of_ble_eq_true rfl) (show 20 ≤ lo by omega) (Nat.le_of_ble_eq_true rfl)) (c_takePath_15 (show 112 ≤ lo - 20 by omega) hd ht hl hn) ?_
  refine eR.step 1 (F' := (5, [(0, .ref 3)], [.ref 3])) (h' := (Gc L xs (A.1, 0) B (fw d A.1 A.2 U) V S d X)) (fun _ _ => rfl) ?_
  exact eR.callU (k' := 72) (as := [.ref 3]) (rest := []) (cx := 0) (fs := []) (h1 := (Gc L xs (A.1, 0) B (fw d A.1 A.2 U) V S d (X ++ [.inr (0, [])]))) rfl rfl rfl rfl (eg (Nat.le_of_ble_eq_true rfl) (show 20 ≤ lo by omega) (Nat.le_of_ble_eq_true rfl)) (c_reqNewT0 (U := (fw d A.1 A.2 U)) (show 121 ≤ lo - 20 by omega) hR hd h0) (Gc_top ..) rfl rfl rfl
theorem c_mkdirT1 {cm sm fr lo L : Nat} {xs : Nat → Int32} {A B : gT} {U V : gU} {S : gS} {d : Nat → Nat} {X : mj_H} (hlo : 200 ≤ lo) (hR : gR cm sm L X) (hd : dk d) (ht : ∀ k, A.1 k < 65536) (hl : A.2 ≤ 40) (hn : ∀ k, U.2.2.2 k < 128) (h0 : d 11 ≠ 0) (h1 : (fw d A.1 A.2 U).1 = 0) : eE mm_P cm sm (fr + 8) lo 81 [.ref 3] (Gc L xs A B U V S d X) (.inr (23 + X.length), (Gc L xs (A.1, 0) B (fw d A.1 A.2 U) V S d (X ++ [.inr (1, [])]))) := by
  refine eE.of ?_
  refine eR.step 1 (F' := (1, [(0, .ref 3)], [.ref 3])) (h' := (Gc L xs A B U V S d X)) (fun _ _ => rfl) ?_
  have hk := fw_pk (t := A.1) (l := A.2) hd hn
  have hp : (fw d A.1 A.2 U).1 < 2 ^ 20 := Nat.lt_trans hk.1 (by decide)
  refine eR.call (k' := 64) (as := [.ref 3]) (rest := []) (v := none) (h1 := (Gc L xs (A.1, 0) B (fw d A.1 A.2 U) V S d X)) rfl rfl rfl rfl (eg (Nat.le_of_ble_eq_true rfl) (show 20 ≤ lo by omega) (Nat.le_of_ble_eq_true rfl)) (c_takePath_15 (show 112 ≤ lo - 20 by omega) hd ht hl hn) ?_
  refine eR.step 1 (F' := (5, [(0, .ref 3)], [.ref 3])) (h' := (Gc L xs (A.1, 0) B (fw d A.1 A.2 U) V S d X)) (fun _ _ => rfl) ?_
  exact eR.callU (k' := 72) (as := [.ref 3]) (rest := []) (cx := 1) (fs := []) (h1 := (Gc L xs (A.1, 0) B (fw d A.1 A.2 U) V S d (X ++ [.inr (1, [])]))) rfl rfl rfl rfl (eg (Nat.le_of_ble_eq_true rfl) (show 20 ≤ lo by omega) (Nat.le_of_ble_eq_true rfl)) (c_reqNewT1 (U := (fw d A.1 A.2 U)) (show 101 ≤ lo - 20 by omega) hR hd h0 h1) (Gc_top ..) rfl rfl rfl
theorem c_mkdirT2 {cm sm fr lo L : Nat} {xs : Nat → Int32} {A B : gT} {U V : gU} {S : gS} {d : Nat → Nat} {X : mj_H} (hlo : 200 ≤ lo) (hR : gR cm sm L X) (hd : dk d) (ht : ∀ k, A.1 k < 65536) (hl : A.2 ≤ 40) (hn : ∀ k, U.2.2.2 k < 128) (h0 : d 11 ≠ 0) (h1 : (fw d A.1 A.2 U).1 ≠ 0) (h2 : cf d 1 1 15 = 0) : eE mm_P cm sm (fr + 8) lo 81 [.ref 3] (Gc L xs A B U V S d X) (.inr (23 + X.length), (Gc L xs (A.1, 0) B (fw d A.1 A.2 U) V S d (X ++ [.inr (0, [])]))) := by
  refine eE.of ?_
  refine eR.step 1 (F' := (1, [(0, .ref 3)], [.ref 3])) (h' := (Gc L xs A B U V S d X)) (fun _ _ => rfl) ?_
  have hk := fw_pk (t := A.1) (l := A.2) hd hn
  have hp : (fw d A.1 A.2 U).1 < 2 ^ 20 := Nat.lt_trans hk.1 (by decide)
  refine eR.call (k' := 64) (as := [.ref 3]) (rest := []) (v := none) (h1 := (Gc L xs (A.1, 0) B (fw d A.1 A.2 U) V S d X)) rfl rfl rfl rfl (eg (Nat.le_of_ble_eq_true rfl) (show 20 ≤ lo by omega) (Nat.le_of_ble_eq_true rfl)) (c_takePath_15 (show 112 ≤ lo - 20 by omega) hd ht hl hn) ?_
  refine eR.step 1 (F' := (5, [(0, .ref 3)], [.ref 3])) (h' := (Gc L xs (A.1, 0) B (fw d A.1 A.2 U) V S d X)) (fun _ _ => rfl) ?_
  refine eR.call (k' := 72) (as := [.ref 3]) (rest := []) (v := none) (h1 := (Gc L xs (A.1, 0) B (fw d A.1 A.2 U) V S d X)) rfl rfl rfl rfl (eg (Nat.le_of_ble_eq_true rfl) (show 20 ≤ lo by omega) (Nat.le_of_ble_eq_true rfl)) (c_reqNew (U := (fw d A.1 A.2 U)) (show 41 ≤ lo - 20 by omega) hd h0 h1 hp) ?_
  refine eR.step 1 (F' := (9, [(0, .ref 3)], [.ref 3])) (h' := (Gc L xs (A.1, 0) B (fw d A.1 A.2 U) V S d X)) (fun _ _ => rfl) ?_
  exact eR.callU (k' := 74) (as := [.ref 3]) (rest := []) (cx := 0) (fs := []) (h1 := (Gc L xs (A.1, 0) B (fw d A.1 A.2 U) V S d (X ++ [.inr (0, [])]))) rfl rfl rfl rfl (eg (Nat.le_of_ble_eq_true rfl) (show 20 ≤ lo by omega) (Nat.le_of_ble_eq_true rfl)) (c_reqInodeT (show 101 ≤ lo - 20 by omega) hR hd h2) (Gc_top ..) rfl rfl rfl
theorem c_mkdirT3 {cm sm fr lo L : Nat} {xs : Nat → Int32} {A B : gT} {U V : gU} {S : gS} {d : Nat → Nat} {X : mj_H} (hlo : 200 ≤ lo) (hR : gR cm sm L X) (hd : dk d) (ht : ∀ k, A.1 k < 65536) (hl : A.2 ≤ 40) (hn : ∀ k, U.2.2.2 k < 128) (h0 : d 11 ≠ 0) (h1 : (fw d A.1 A.2 U).1 ≠ 0) (h2 : cf d 1 1 15 ≠ 0) (h3 : (fw d A.1 A.2 U).2.2.1 ≠ 0) : eE mm_P cm sm (fr + 8) lo 81 [.ref 3] (Gc L xs A B U V S d X) (.inr (23 + X.length), (Gc L xs (A.1, 0) B (fw d A.1 A.2 U) V S d (X ++ [.inr (0, [])]))) := by
  refine eE.of ?_
  refine eR.step 1 (F' := (1, [(0, .ref 3)], [.ref 3])) (h' := (Gc L xs A B U V S d X)) (fun _ _ => rfl) ?_
  have hk := fw_pk (t := A.1) (l := A.2) hd hn
  have hp : (fw d A.1 A.2 U).1 < 2 ^ 20 := Nat.lt_trans hk.1 (by decide)
  refine eR.call (k' := 64) (as := [.ref 3]) (rest := []) (v := none) (h1 := (Gc L xs (A.1, 0) B (fw d A.1 A.2 U) V S d X)) rfl rfl rfl rfl (eg (Nat.le_of_ble_eq_true rfl) (show 20 ≤ lo by omega) (Nat.le_of_ble_eq_true rfl)) (c_takePath_15 (show 112 ≤ lo - 20 by omega) hd ht hl hn) ?_
  refine eR.step 1 (F' := (5, [(0, .ref 3)], [.ref 3])) (h' := (Gc L xs (A.1, 0) B (fw d A.1 A.2 U) V S d X)) (fun _ _ => rfl) ?_
  refine eR.call (k' := 72) (as := [.ref 3]) (rest := []) (v := none) (h1 := (Gc L xs (A.1, 0) B (fw d A.1 A.2 U) V S d X)) rfl rfl rfl rfl (eg (Nat.le_of_ble_eq_true rfl) (show 20 ≤ lo by omega) (Nat.le_of_ble_eq_true rfl)) (c_reqNew (U := (fw d A.1 A.2 U)) (show 41 ≤ lo - 20 by omega) hd h0 h1 hp) ?_
  refine eR.step 1 (F' := (9, [(0, .ref 3)], [.ref 3])) (h' := (Gc L xs (A.1, 0) B (fw d A.1 A.2 U) V S d X)) (fun _ _ => rfl) ?_
  refine eR.call (k' := 74) (as := [.ref 3]) (rest := []) (v := none) (h1 := (Gc L xs (A.1, 0) B (fw d A.1 A.2 U) V S d X)) rfl rfl rfl rfl (eg (Nat.le_of_ble_eq_true rfl) (show 20 ≤ lo by omega) (Nat.le_of_ble_eq_true rfl)) (c_reqInode (show 45 ≤ lo - 20 by omega) hd h2) ?_
  refine eR.step 2 (F' := (14, [(0, .ref 3)], [.int (nI 1), .ref 3])) (h' := (Gc L xs (A.1, 0) B (fw d A.1 A.2 U) V S d X)) (fun _ _ => rfl) ?_
  exact eR.callU (k' := 75) (as := [.ref 3, .int (nI 1)]) (rest := []) (cx := 0) (fs := []) (h1 := (Gc L xs (A.1, 0) B (fw d A.1 A.2 U) V S d (X ++ [.inr (0, [])]))) rfl rfl rfl rfl (eg (Nat.le_of_ble_eq_true rfl) (show 21 ≤ lo by omega) (Nat.le_of_ble_eq_true rfl)) (c_reqSlotT1 (U := (fw d A.1 A.2 U)) (show 115 ≤ lo - 21 by omega) hR h3 (Nat.lt_trans hk.2.2.1 (by decide))) (Gc_top ..) rfl rfl rfl
theorem c_mkdirT4 {cm sm fr lo L : Nat} {xs : Nat → Int32} {A B : gT} {U V : gU} {S : gS} {d : Nat → Nat} {X : mj_H} (hlo : 200 ≤ lo) (hR : gR cm sm L X) (hd : dk d) (ht : ∀ k, A.1 k < 65536) (hl : A.2 ≤ 40) (hn : ∀ k, U.2.2.2 k < 128) (h0 : d 11 ≠ 0) (h1 : (fw d A.1 A.2 U).1 ≠ 0) (h2 : cf d 1 1 15 ≠ 0) (h3 : (fw d A.1 A.2 U).2.2.1 = 0) (h4 : ¬ hr d (fw d A.1 A.2 U).1 1 = true) : eE mm_P cm sm (fr + 8) lo 81 [.ref 3] (Gc L xs A B U V S d X) (.inr (23 + X.length), (Gc L xs (A.1, 0) B (fw d A.1 A.2 U) V S d (X ++ [.inr (0, [])]))) := by
  refine eE.of ?_
  refine eR.step 1 (F' := (1, [(0, .ref 3)], [.ref 3])) (h' := (Gc L xs A B U V S d X)) (fun _ _ => rfl) ?_
  have hk := fw_pk (t := A.1) (l := A.2) hd hn
  have hp : (fw d A.1 A.2 U).1 < 2 ^ 20 := Nat.lt_trans hk.1 (by decide)
  refine eR.call (k' := 64) (as := [.ref 3]) (rest := []) (v := none) (h1 := (Gc L xs (A.1, 0) B (fw d A.1 A.2 U) V S d X)) rfl rfl rfl rfl (eg (Nat.le_of_ble_eq_true rfl) (show 20 ≤ lo by omega) (Nat.le_of_ble_eq_true rfl)) (c_takePath_15 (show 112 ≤ lo - 20 by omega) hd ht hl hn) ?_
  refine eR.step 1 (F' := (5, [(0, .ref 3)], [.ref 3])) (h' := (Gc L xs (A.1, 0) B (fw d A.1 A.2 U) V S d X)) (fun _ _ => rfl) ?_
  refine eR.call (k' := 72) (as := [.ref 3]) (rest := []) (v := none) (h1 := (Gc L xs (A.1, 0) B (fw d A.1 A.2 U) V S d X)) rfl rfl rfl rfl (eg (Nat.le_of_ble_eq_true rfl) (show 20 ≤ lo by omega) (Nat.le_of_ble_eq_true rfl)) (c_reqNew (U := (fw d A.1 A.2 U)) (show 41 ≤ lo - 20 by omega) hd h0 h1 hp) ?_
  refine eR.step 1 (F' := (9, [(0, .ref 3)], [.ref 3])) (h' := (Gc L xs (A.1, 0) B (fw d A.1 A.2 U) V S d X)) (fun _ _ => rfl) ?_
  refine eR.call (k' := 74) (as := [.ref 3]) (rest := []) (v := none) (h1 := (Gc L xs (A.1, 0) B (fw d A.1 A.2 U) V S d X)) rfl rfl rfl rfl (eg (Nat.le_of_ble_eq_true rfl) (show 20 ≤ lo by omega) (Nat.le_of_ble_eq_true rfl)) (c_reqInode (show 45 ≤ lo - 20 by omega) hd h2) ?_
  refine eR.step 2 (F' := (14, [(0, .ref 3)], [.int (nI 1), .ref 3])) (h' := (Gc L xs (A.1, 0) B (fw d A.1 A.2 U) V S d X)) (fun _ _ => rfl) ?_
  exact eR.callU (k' := 75) (as := [.ref 3, .int (nI 1)]) (rest := []) (cx := 0) (fs := []) (h1 := (Gc L xs (A.1, 0) B (fw d A.1 A.2 U) V S d (X ++ [.inr (0, [])]))) rfl rfl rfl rfl (eg (Nat.le_of_ble_eq_true rfl) (show 21 ≤ lo by omega) (Nat.le_of_ble_eq_true rfl)) (c_reqSlotT2 (U := (fw d A.1 A.2 U)) (show 115 ≤ lo - 21 by omega) hR hd hp (by decide) h3 h4) (Gc_top ..) rfl rfl rfl

