theorem na_neg {a b : Nat} (h : a < b) (hb : b < 2 ^ 31) : nI a - nI b < 0 := by
  rw [Int32.lt_iff_toInt_lt, Int32.toInt_sub, nI_toInt (by omega), nI_toInt hb, Int.bmod_eq_of_le (by omega) (by omega)]
  show (a : Int) - b < 0
  omega
theorem mc_gt8 {x : Int32} (hx : x < 0) : mj_cmp .gt (nI 8) x = true := by
  have h1 := Int32.lt_iff_toInt_lt.mp hx
  have h2 : (nI 8).toInt = 8 := by decide
  have h3 : (0 : Int32).toInt = 0 := by decide
  exact decide_eq_true (Int32.lt_iff_toInt_lt.mpr (by omega))
theorem mc_ge {x : Int32} (hx : x < 0) : mj_cmp .ge x 0 = false := by
  have h1 := Int32.lt_iff_toInt_lt.mp hx
  have h3 : (0 : Int32).toInt = 0 := by decide
  refine decide_eq_false (fun z => ?_)
  have h2 := Int32.le_iff_toInt_le.mp z
  omega
theorem mc_ge0 {x : Int32} (hx : x < 0) : mj_cmp .ge (nI 0) x = true := by
  have h1 := Int32.lt_iff_toInt_lt.mp hx
  have h2 : (nI 0).toInt = 0 := by decide
  have h3 : (0 : Int32).toInt = 0 := by decide
  exact decide_eq_true (Int32.le_iff_toInt_le.mpr (by omega))
theorem acc_lt {a b k : Nat} (ha : a < 256 ^ k) (hb : b < 256) : a + b * 256 ^ k < 256 ^ (k + 1) := by
  have h1 : b * 256 ^ k ≤ 255 * 256 ^ k := Nat.mul_le_mul_right _ (by omega)
  rw [Nat.pow_succ]
  omega
theorem gy_256 {d : Nat → Nat} (hd : dk d) (i f : Nat) : gy d i f < 256 := by
  unfold gy
  split
  · omega
  · exact hd.1 _
theorem c_min_m {cm sm fr lo L : Nat} {xs : Nat → Int32} {A B : gT} {U V : gU} {S : gS} {d : Nat → Nat} {X : mj_H} {x : Int32} (hx : x < 0) : eE mm_P cm sm (fr + 1) lo 164 [.int (nI 8), .int (x)] (Gc L xs A B U V S d X) (.inl (some (.int (x))), (Gc L xs A B U V S d X)) := by
  refine eE.of ?_
  refine eR.step 2 (F' := (2, [(0, .int (nI 8)), (1, .int (x))], [.int (x), .int (nI 8)])) (h' := (Gc L xs A B U V S d X)) (fun _ _ => rfl) ?_
  refine eR.icmp rfl true (mc_gt8 hx) ?_
  refine eR.step 1 (F' := (10, [(0, .int (nI 8)), (1, .int (x))], [.int (x)])) (h' := (Gc L xs A B U V S d X)) (fun _ _ => rfl) ?_
  exact eR.ret rfl rfl rfl
theorem c_readT0 {cm sm fr lo L : Nat} {xs : Nat → Int32} {A B : gT} {U V : gU} {S : gS} {d : Nat → Nat} {X : mj_H} (hlo : 200 ≤ lo) (hR : gR cm sm L X) {x : Int32} (hd : dk d) (ht : ∀ k, A.1 k < 65536) (hl : A.2 ≤ 40) (hn : ∀ k, U.2.2.2 k < 128) (h0 : d 11 = 0) : eE mm_P cm sm (fr + 9) lo 100 [.ref 3, .int (x)] (Gc L xs A B U V S d X) (.inr (23 + X.length), (Gc L xs (A.1, 0) B (fw d A.1 A.2 U) V S d (X ++ [.inr (0, [])]))) := by
  refine eE.of ?_
  refine eR.step 1 (F' := (1, [(0, .ref 3), (1, .int (x))], [.ref 3])) (h' := (Gc L xs A B U V S d X)) (fun _ _ => rfl) ?_
  have hk := fw_pk (t := A.1) (l := A.2) hd hn
  have hp : (fw d A.1 A.2 U).1 < 2 ^ 20 := Nat.lt_trans hk.1 (by decide)
  have hi : (fw d A.1 A.2 U).2.2.1 < 2 ^ 20 := Nat.lt_trans hk.2.2.1 (by decide)
  refine eR.call (k' := 64) (as := [.ref 3]) (rest := []) (v := none) (h1 := (Gc L xs (A.1, 0) B (fw d A.1 A.2 U) V S d X)) rfl rfl rfl rfl (eg (Nat.le_of_ble_eq_true rfl) (show 20 ≤ lo by omega) (Nat.le_of_ble_eq_true rfl)) (c_takePath_15 (show 112 ≤ lo - 20 by omega) hd ht hl hn) ?_
  refine eR.step 3 (F' := (9, [(0, .ref 3), (1, .int (x))], [.ref 19, .ref 3])) (h' := (Gc L xs (A.1, 0) B (fw d A.1 A.2 U) V S d X)) (fun _ _ => rfl) ?_
  exact eR.callU (k' := 84) (as := [.ref 3, .ref 19]) (rest := []) (cx := 0) (fs := []) (h1 := (Gc L xs (A.1, 0) B (fw d A.1 A.2 U) V S d (X ++ [.inr (0, [])]))) rfl rfl rfl rfl (eg (Nat.le_of_ble_eq_true rfl) (show 22 ≤ lo by omega) (Nat.le_of_ble_eq_true rfl)) (c_file_19T0 (U := (fw d A.1 A.2 U)) (show 150 ≤ lo - 22 by omega) hR hd h0) (Gc_top ..) rfl rfl rfl
theorem c_readT1 {cm sm fr lo L : Nat} {xs : Nat → Int32} {A B : gT} {U V : gU} {S : gS} {d : Nat → Nat} {X : mj_H} (hlo : 200 ≤ lo) (hR : gR cm sm L X) {x : Int32} (hd : dk d) (ht : ∀ k, A.1 k < 65536) (hl : A.2 ≤ 40) (hn : ∀ k, U.2.2.2 k < 128) (h0 : d 11 ≠ 0) (h1 : (fw d A.1 A.2 U).2.2.1 = 0) : eE mm_P cm sm (fr + 9) lo 100 [.ref 3, .int (x)] (Gc L xs A B U V S d X) (.inr (23 + X.length), (Gc L xs (A.1, 0) B (fw d A.1 A.2 U) V S d (X ++ [.inr (1, [])]))) := by
  refine eE.of ?_
  refine eR.step 1 (F' := (1, [(0, .ref 3), (1, .int (x))], [.ref 3])) (h' := (Gc L xs A B U V S d X)) (fun _ _ => rfl) ?_
  have hk := fw_pk (t := A.1) (l := A.2) hd hn
  have hp : (fw d A.1 A.2 U).1 < 2 ^ 20 := Nat.lt_trans hk.1 (by decide)
  have hi : (fw d A.1 A.2 U).2.2.1 < 2 ^ 20 := Nat.lt_trans hk.2.2.1 (by decide)
  refine eR.call (k' := 64) (as := [.ref 3]) (rest := []) (v := none) (h1 := (Gc L xs (A.1, 0) B (fw d A.1 A.2 U) V S d X)) rfl rfl rfl rfl (eg (Nat.le_of_ble_eq_true rfl) (show 20 ≤ lo by omega) (Nat.le_of_ble_eq_true rfl)) (c_takePath_15 (show 112 ≤ lo - 20 by omega) hd ht hl hn) ?_
  refine eR.step 3 (F' := (9, [(0, .ref 3), (1, .int (x))], [.ref 19, .ref 3])) (h' := (Gc L xs (A.1, 0) B (fw d A.1 A.2 U) V S d X)) (fun _ _ => rfl) ?_
  exact eR.callU (k' := 84) (as := [.ref 3, .ref 19]) (rest := []) (cx := 1) (fs := []) (h1 := (Gc L xs (A.1, 0) B (fw d A.1 A.2 U) V S d (X ++ [.inr (1, [])]))) rfl rfl rfl rfl (eg (Nat.le_of_ble_eq_true rfl) (show 22 ≤ lo by omega) (Nat.le_of_ble_eq_true rfl)) (c_file_19T1 (U := (fw d A.1 A.2 U)) (show 150 ≤ lo - 22 by omega) hR hd h0 h1) (Gc_top ..) rfl rfl rfl
theorem c_readT2 {cm sm fr lo L : Nat} {xs : Nat → Int32} {A B : gT} {U V : gU} {S : gS} {d : Nat → Nat} {X : mj_H} (hlo : 200 ≤ lo) (hR : gR cm sm L X) {x : Int32} (hd : dk d) (ht : ∀ k, A.1 k < 65536) (hl : A.2 ≤ 40) (hn : ∀ k, U.2.2.2 k < 128) (h0 : d 11 ≠ 0) (h1 : (fw d A.1 A.2 U).2.2.1 ≠ 0) (h2 : d (32 + (16 * (fw d A.1 A.2 U).2.2.1)) = 2) : eE mm_P cm sm (fr + 9) lo 100 [.ref 3, .int (x)] (Gc L xs A B U V S d X) (.inr (23 + X.length), (Gc L xs (A.1, 0) B (fw d A.1 A.2 U) V S d (X ++ [.inr (2, [])]))) := by
  refine eE.of ?_
  refine eR.step 1 (F' := (1, [(0, .ref 3), (1, .int (x))], [.ref 3])) (h' := (Gc L xs A B U V S d X)) (fun _ _ => rfl) ?_
  have hk := fw_pk (t := A.1) (l := A.2) hd hn
  have hp : (fw d A.1 A.2 U).1 < 2 ^ 20 := Nat.lt_trans hk.1 (by decide)
  have hi : (fw d A.1 A.2 U).2.2.1 < 2 ^ 20 := Nat.lt_trans hk.2.2.1 (by decide)
  refine eR.call (k' := 64) (as := [.ref 3]) (rest := []) (v := none) (h1 := (Gc L xs (A.1, 0) B (fw d A.1 A.2 U) V S d X)) rfl rfl rfl rfl (eg (Nat.le_of_ble_eq_true rfl) (show 20 ≤ lo by omega) (Nat.le_of_ble_eq_true rfl)) (c_takePath_15 (show 112 ≤ lo - 20 by omega) hd ht hl hn) ?_
  refine eR.step 3 (F' := (9, [(0, .ref 3), (1, .int (x))], [.ref 19, .ref 3])) (h' := (Gc L xs (A.1, 0) B (fw d A.1 A.2 U) V S d X)) (fun _ _ => rfl) ?_
  exact eR.callU (k' := 84) (as := [.ref 3, .ref 19]) (rest := []) (cx := 2) (fs := []) (h1 := (Gc L xs (A.1, 0) B (fw d A.1 A.2 U) V S d (X ++ [.inr (2, [])]))) rfl rfl rfl rfl (eg (Nat.le_of_ble_eq_true rfl) (show 22 ≤ lo by omega) (Nat.le_of_ble_eq_true rfl)) (c_file_19T2 (U := (fw d A.1 A.2 U)) (show 150 ≤ lo - 22 by omega) hR hd h0 hi h1 h2) (Gc_top ..) rfl rfl rfl
theorem c_readT3 {cm sm fr lo L : Nat} {xs : Nat → Int32} {A B : gT} {U V : gU} {S : gS} {d : Nat → Nat} {X : mj_H} (hlo : 200 ≤ lo) (hR : gR cm sm L X) {x : Int32} (hx : x < 0) (hd : dk d) (ht : ∀ k, A.1 k < 65536) (hl : A.2 ≤ 40) (hn : ∀ k, U.2.2.2 k < 128) (h0 : d 11 ≠ 0) (h1 : (fw d A.1 A.2 U).2.2.1 ≠ 0) (h2 : d (32 + (16 * (fw d A.1 A.2 U).2.2.1)) ≠ 2)  : eE mm_P cm sm (fr + 9) lo 100 [.ref 3, .int (x)] (Gc L xs A B U V S d X) (.inr (23 + X.length), (Gc L xs (A.1, 0) B (fw d A.1 A.2 U) V S d (X ++ [.inr (3, [])]))) := by
  refine eE.of ?_
  refine eR.step 1 (F' := (1, [(0, .ref 3), (1, .int (x))], [.ref 3])) (h' := (Gc L xs A B U V S d X)) (fun _ _ => rfl) ?_
  have hk := fw_pk (t := A.1) (l := A.2) hd hn
  have hp : (fw d A.1 A.2 U).1 < 2 ^ 20 := Nat.lt_trans hk.1 (by decide)
  have hi : (fw d A.1 A.2 U).2.2.1 < 2 ^ 20 := Nat.lt_trans hk.2.2.1 (by decide)
  refine eR.call (k' := 64) (as := [.ref 3]) (rest := []) (v := none) (h1 := (Gc L xs (A.1, 0) B (fw d A.1 A.2 U) V S d X)) rfl rfl rfl rfl (eg (Nat.le_of_ble_eq_true rfl) (show 20 ≤ lo by omega) (Nat.le_of_ble_eq_true rfl)) (c_takePath_15 (show 112 ≤ lo - 20 by omega) hd ht hl hn) ?_
  refine eR.step 3 (F' := (9, [(0, .ref 3), (1, .int (x))], [.ref 19, .ref 3])) (h' := (Gc L xs (A.1, 0) B (fw d A.1 A.2 U) V S d X)) (fun _ _ => rfl) ?_
  refine eR.call (k' := 84) (as := [.ref 3, .ref 19]) (rest := []) (v := some (.int (nI ((fw d A.1 A.2 U).2.2.1)))) (h1 := (Gc L xs (A.1, 0) B (fw d A.1 A.2 U) V S d X)) rfl rfl rfl rfl (eg (Nat.le_of_ble_eq_true rfl) (show 22 ≤ lo by omega) (Nat.le_of_ble_eq_true rfl)) (c_file_19 (U := (fw d A.1 A.2 U)) (show 62 ≤ lo - 22 by omega) hd h0 hi h1 h2) ?_
  refine eR.step 2 (F' := (14, [(0, .ref 3), (1, .int (x)), (2, .int (nI ((fw d A.1 A.2 U).2.2.1)))], [.int (x)])) (h' := (Gc L xs (A.1, 0) B (fw d A.1 A.2 U) V S d X)) (fun _ _ => rfl) ?_
  refine eR.ifc rfl false (mc_ge hx) ?_
  exact thrH (cx := 3) rfl rfl rfl rfl rfl rfl rfl (by omega) (by omega) hR
theorem l_read {cm sm fr lo L : Nat} {xs : Nat → Int32} {A B : gT} {U V : gU} {S : gS} {d : Nat → Nat} {X : mj_H} (hlo : 132 ≤ lo) (hd : dk d) {i o n : Nat} (hi : i < 2 ^ 20) (ho : o < 2 ^ 19) (hn8 : n ≤ 8) : ∀ (q k acc : Nat), k + q = n → acc < 256 ^ k → eR mm_P cm sm (fr + 7) lo 100 (49, [(0, .ref 3), (1, .int (nI (o))), (2, .int (nI (i))), (3, .int (nI (n))), (4, .long (nL (acc))), (6, .int (nI (k)))], []) (Gc L xs A B U V S d X) (.inl (some (.long (nL (ca (fun j => gy d i (o + j)) acc k q)))), (Gc L xs A B U V S d X))
  | 0, k, acc, hk, ha => by
    show eR _ _ _ _ _ _ _ _ (.inl (some (.long (nL (acc)))), _)
    refine eR.step 2 (F' := (52, [(0, .ref 3), (1, .int (nI (o))), (2, .int (nI (i))), (3, .int (nI (n))), (4, .long (nL (acc))), (6, .int (nI (k)))], [.int (nI (n)), .int (nI (k))])) (h' := (Gc L xs A B U V S d X)) (fun _ _ => rfl) ?_
    refine eR.icmp rfl true ((nc_ge (by omega) (by omega)).trans (decide_eq_true (by omega))) ?_
    refine eR.step 1 (F' := (87, [(0, .ref 3), (1, .int (nI (o))), (2, .int (nI (i))), (3, .int (nI (n))), (4, .long (nL (acc))), (6, .int (nI (k)))], [.long (nL (acc))])) (h' := (Gc L xs A B U V S d X)) (fun _ _ => rfl) ?_
    exact eR.ret rfl rfl rfl
  | q + 1, k, acc, hk, ha => by
    refine eR.step 2 (F' := (52, [(0, .ref 3), (1, .int (nI (o))), (2, .int (nI (i))), (3, .int (nI (n))), (4, .long (nL (acc))), (6, .int (nI (k)))], [.int (nI (n)), .int (nI (k))])) (h' := (Gc L xs A B U V S d X)) (fun _ _ => rfl) ?_
    refine eR.icmp rfl false ((nc_ge (by omega) (by omega)).trans (decide_eq_false (by omega))) ?_
    refine eR.step 6 (F' := (65, [(0, .ref 3), (1, .int (nI (o))), (2, .int (nI (i))), (3, .int (nI (n))), (4, .long (nL (acc))), (6, .int (nI (k)))], [.int (nI (k)), .int (nI (o)), .int (nI (i)), .ref 8, .long (nL (acc))])) (h' := (Gc L xs A B U V S d X)) (fun _ _ => rfl) ?_
    refine eR.nadd rfl ?_
    refine eR.call (k' := 101) (as := [.ref 8, .int (nI (i)), .int (nI (o + k))]) (rest := [.long (nL (acc))]) (v := some (.int (nI (gy d i (o + k))))) (h1 := (Gc L xs A B U V S d X)) rfl rfl rfl rfl (eg (Nat.le_of_ble_eq_true rfl) (show 23 ≤ lo by omega) (Nat.le_of_ble_eq_true rfl)) (c_getByte (show 66 ≤ lo - 23 by omega) hd hi (by omega)) ?_
    refine eR.step 3 (F' := (74, [(0, .ref 3), (1, .int (nI (o))), (2, .int (nI (i))), (3, .int (nI (n))), (4, .long (nL (acc))), (6, .int (nI (k)))], [.int (nI (k)), .int (nI 8), .long ((nI (gy d i (o + k))).toInt64), .long (nL (acc))])) (h' := (Gc L xs A B U V S d X)) (fun _ _ => rfl) ?_
    refine eR.nmul rfl ?_
    refine eR.step 2 (F' := (77, [(0, .ref 3), (1, .int (nI (o))), (2, .int (nI (i))), (3, .int (nI (n))), (4, .long (nL (acc))), (6, .int (nI (k)))], [.long (nL (acc) ||| ((nI (gy d i (o + k))).toInt64 <<< ((nI (8 * k)).toInt64 &&& 63)))])) (h' := (Gc L xs A B U V S d X)) (fun _ _ => rfl) ?_
    rw [nL_put (gy_256 hd _ _) (by omega) ha]
    refine eR.step 2 (F' := (82, [(0, .ref 3), (1, .int (nI (o))), (2, .int (nI (i))), (3, .int (nI (n))), (4, .long (nL (acc + gy d i (o + k) * 256 ^ k))), (6, .int (nI (k) + 1))], [])) (h' := (Gc L xs A B U V S d X)) (fun _ _ => rfl) ?_
    rw [show nI (k) + 1 = nI (k + 1) from nI_add (k) 1]
    refine eR.step 1 (F' := (49, [(0, .ref 3), (1, .int (nI (o))), (2, .int (nI (i))), (3, .int (nI (n))), (4, .long (nL (acc + gy d i (o + k) * 256 ^ k))), (6, .int (nI (k + 1)))], [])) (h' := (Gc L xs A B U V S d X)) (fun _ _ => rfl) ?_
    exact l_read hlo hd hi ho hn8 q (k + 1) _ (by omega) (acc_lt ha (gy_256 hd _ _))
theorem c_read {cm sm fr lo L : Nat} {xs : Nat → Int32} {A B : gT} {U V : gU} {S : gS} {d : Nat → Nat} {X : mj_H} (hlo : 132 ≤ lo) {o : Nat} (ho : o < 2 ^ 31) (hd : dk d) (ht : ∀ k, A.1 k < 65536) (hl : A.2 ≤ 40) (hn : ∀ k, U.2.2.2 k < 128) (h0 : d 11 ≠ 0) (h1 : (fw d A.1 A.2 U).2.2.1 ≠ 0) (h2 : d (32 + (16 * (fw d A.1 A.2 U).2.2.1)) ≠ 2) (h3 : o ≤ d (32 + (16 * (fw d A.1 A.2 U).2.2.1) + 2) + (256 * (d (32 + (16 * (fw d A.1 A.2 U).2.2.1) + 2 + 1)))) : eE mm_P cm sm (fr + 8) lo 100 [.ref 3, .int (nI (o))] (Gc L xs A B U V S d X) (.inl (some (.long (nL (ca (fun j => gy d (fw d A.1 A.2 U).2.2.1 (o + j)) 0 0 (min 8 (d (32 + (16 * (fw d A.1 A.2 U).2.2.1) + 2) + (256 * (d (32 + (16 * (fw d A.1 A.2 U).2.2.1) + 2 + 1))) - o)))))), (Gc L xs (A.1, 0) B (fw d A.1 A.2 U) V S d X)) := by
  refine eE.of ?_
  refine eR.step 1 (F' := (1, [(0, .ref 3), (1, .int (nI (o)))], [.ref 3])) (h' := (Gc L xs A B U V S d X)) (fun _ _ => rfl) ?_
  have hk := fw_pk (t := A.1) (l := A.2) hd hn
  have hp : (fw d A.1 A.2 U).1 < 2 ^ 20 := Nat.lt_trans hk.1 (by decide)
  have hi : (fw d A.1 A.2 U).2.2.1 < 2 ^ 20 := Nat.lt_trans hk.2.2.1 (by decide)
  refine eR.call (k' := 64) (as := [.ref 3]) (rest := []) (v := none) (h1 := (Gc L xs (A.1, 0) B (fw d A.1 A.2 U) V S d X)) rfl rfl rfl rfl (eg (Nat.le_of_ble_eq_true rfl) (show 20 ≤ lo by omega) (Nat.le_of_ble_eq_true rfl)) (c_takePath_15 (show 112 ≤ lo - 20 by omega) hd ht hl hn) ?_
  refine eR.step 3 (F' := (9, [(0, .ref 3), (1, .int (nI (o)))], [.ref 19, .ref 3])) (h' := (Gc L xs (A.1, 0) B (fw d A.1 A.2 U) V S d X)) (fun _ _ => rfl) ?_
  refine eR.call (k' := 84) (as := [.ref 3, .ref 19]) (rest := []) (v := some (.int (nI ((fw d A.1 A.2 U).2.2.1)))) (h1 := (Gc L xs (A.1, 0) B (fw d A.1 A.2 U) V S d X)) rfl rfl rfl rfl (eg (Nat.le_of_ble_eq_true rfl) (show 22 ≤ lo by omega) (Nat.le_of_ble_eq_true rfl)) (c_file_19 (U := (fw d A.1 A.2 U)) (show 62 ≤ lo - 22 by omega) hd h0 hi h1 h2) ?_
  refine eR.step 2 (F' := (14, [(0, .ref 3), (1, .int (nI (o))), (2, .int (nI ((fw d A.1 A.2 U).2.2.1)))], [.int (nI (o))])) (h' := (Gc L xs (A.1, 0) B (fw d A.1 A.2 U) V S d X)) (fun _ _ => rfl) ?_
  refine eR.ifc rfl true ((nc_ge (b := 0) (by omega) (by decide)).trans (decide_eq_true (by omega))) ?_
  refine eR.step 4 (F' := (34, [(0, .ref 3), (1, .int (nI (o))), (2, .int (nI ((fw d A.1 A.2 U).2.2.1)))], [.int (nI ((fw d A.1 A.2 U).2.2.1)), .ref 8, .int (nI 8)])) (h' := (Gc L xs (A.1, 0) B (fw d A.1 A.2 U) V S d X)) (fun _ _ => rfl) ?_
  have h7 := hd.1 (32 + (16 * (fw d A.1 A.2 U).2.2.1) + 2)
  have h8 := hd.1 (32 + (16 * (fw d A.1 A.2 U).2.2.1) + 2 + 1)
  refine eR.call (k' := 51) (as := [.ref 8, .int (nI ((fw d A.1 A.2 U).2.2.1))]) (rest := [.int (nI 8)]) (v := some (.int (nI (d (32 + (16 * (fw d A.1 A.2 U).2.2.1) + 2) + (256 * (d (32 + (16 * (fw d A.1 A.2 U).2.2.1) + 2 + 1))))))) (h1 := (Gc L xs (A.1, 0) B (fw d A.1 A.2 U) V S d X)) rfl rfl rfl rfl (eg (Nat.le_of_ble_eq_true rfl) (show 22 ≤ lo by omega) (Nat.le_of_ble_eq_true rfl)) (c_sizeI (show 21 ≤ lo - 22 by omega) hd hi) ?_
  refine eR.step 1 (F' := (38, [(0, .ref 3), (1, .int (nI (o))), (2, .int (nI ((fw d A.1 A.2 U).2.2.1)))], [.int (nI (o)), .int (nI (d (32 + (16 * (fw d A.1 A.2 U).2.2.1) + 2) + (256 * (d (32 + (16 * (fw d A.1 A.2 U).2.2.1) + 2 + 1))))), .int (nI 8)])) (h' := (Gc L xs (A.1, 0) B (fw d A.1 A.2 U) V S d X)) (fun _ _ => rfl) ?_
  refine eR.nsub rfl (by omega) ?_
  refine eR.call (k' := 164) (as := [.int (nI 8), .int (nI ((d (32 + (16 * (fw d A.1 A.2 U).2.2.1) + 2) + (256 * (d (32 + (16 * (fw d A.1 A.2 U).2.2.1) + 2 + 1)))) - o))]) (rest := []) (v := some (.int (nI (min 8 (d (32 + (16 * (fw d A.1 A.2 U).2.2.1) + 2) + (256 * (d (32 + (16 * (fw d A.1 A.2 U).2.2.1) + 2 + 1))) - o))))) (h1 := (Gc L xs (A.1, 0) B (fw d A.1 A.2 U) V S d X)) rfl rfl rfl rfl (eg (Nat.le_of_ble_eq_true rfl) (show 21 ≤ lo by omega) (Nat.le_of_ble_eq_true rfl)) (c_min (by decide) (by omega)) ?_
  refine eR.step 5 (F' := (49, [(0, .ref 3), (1, .int (nI (o))), (2, .int (nI ((fw d A.1 A.2 U).2.2.1))), (3, .int (nI (min 8 (d (32 + (16 * (fw d A.1 A.2 U).2.2.1) + 2) + (256 * (d (32 + (16 * (fw d A.1 A.2 U).2.2.1) + 2 + 1))) - o)))), (4, .long (0)), (6, .int (nI 0))], [])) (h' := (Gc L xs (A.1, 0) B (fw d A.1 A.2 U) V S d X)) (fun _ _ => rfl) ?_
  exact l_read (U := (fw d A.1 A.2 U)) (A := (A.1, 0)) (show 132 ≤ lo by omega) hd hi (by omega) (Nat.min_le_left _ _) (min 8 (d (32 + (16 * (fw d A.1 A.2 U).2.2.1) + 2) + (256 * (d (32 + (16 * (fw d A.1 A.2 U).2.2.1) + 2 + 1))) - o)) 0 0 (by omega) (by decide)
theorem c_readE {cm sm fr lo L : Nat} {xs : Nat → Int32} {A B : gT} {U V : gU} {S : gS} {d : Nat → Nat} {X : mj_H} (hlo : 132 ≤ lo) {o : Nat} (ho : o < 2 ^ 31) (hd : dk d) (ht : ∀ k, A.1 k < 65536) (hl : A.2 ≤ 40) (hn : ∀ k, U.2.2.2 k < 128) (h0 : d 11 ≠ 0) (h1 : (fw d A.1 A.2 U).2.2.1 ≠ 0) (h2 : d (32 + (16 * (fw d A.1 A.2 U).2.2.1)) ≠ 2) (h3 : d (32 + (16 * (fw d A.1 A.2 U).2.2.1) + 2) + (256 * (d (32 + (16 * (fw d A.1 A.2 U).2.2.1) + 2 + 1))) < o) : eE mm_P cm sm (fr + 8) lo 100 [.ref 3, .int (nI (o))] (Gc L xs A B U V S d X) (.inl (some (.long (nL 0))), (Gc L xs (A.1, 0) B (fw d A.1 A.2 U) V S d X)) := by
  refine eE.of ?_
  refine eR.step 1 (F' := (1, [(0, .ref 3), (1, .int (nI (o)))], [.ref 3])) (h' := (Gc L xs A B U V S d X)) (fun _ _ => rfl) ?_
  have hk := fw_pk (t := A.1) (l := A.2) hd hn
  have hp : (fw d A.1 A.2 U).1 < 2 ^ 20 := Nat.lt_trans hk.1 (by decide)
  have hi : (fw d A.1 A.2 U).2.2.1 < 2 ^ 20 := Nat.lt_trans hk.2.2.1 (by decide)
  refine eR.call (k' := 64) (as := [.ref 3]) (rest := []) (v := none) (h1 := (Gc L xs (A.1, 0) B (fw d A.1 A.2 U) V S d X)) rfl rfl rfl rfl (eg (Nat.le_of_ble_eq_true rfl) (show 20 ≤ lo by omega) (Nat.le_of_ble_eq_true rfl)) (c_takePath_15 (show 112 ≤ lo - 20 by omega) hd ht hl hn) ?_
  refine eR.step 3 (F' := (9, [(0, .ref 3), (1, .int (nI (o)))], [.ref 19, .ref 3])) (h' := (Gc L xs (A.1, 0) B (fw d A.1 A.2 U) V S d X)) (fun _ _ => rfl) ?_
  refine eR.call (k' := 84) (as := [.ref 3, .ref 19]) (rest := []) (v := some (.int (nI ((fw d A.1 A.2 U).2.2.1)))) (h1 := (Gc L xs (A.1, 0) B (fw d A.1 A.2 U) V S d X)) rfl rfl rfl rfl (eg (Nat.le_of_ble_eq_true rfl) (show 22 ≤ lo by omega) (Nat.le_of_ble_eq_true rfl)) (c_file_19 (U := (fw d A.1 A.2 U)) (show 62 ≤ lo - 22 by omega) hd h0 hi h1 h2) ?_
  refine eR.step 2 (F' := (14, [(0, .ref 3), (1, .int (nI (o))), (2, .int (nI ((fw d A.1 A.2 U).2.2.1)))], [.int (nI (o))])) (h' := (Gc L xs (A.1, 0) B (fw d A.1 A.2 U) V S d X)) (fun _ _ => rfl) ?_
  refine eR.ifc rfl true ((nc_ge (b := 0) (by omega) (by decide)).trans (decide_eq_true (by omega))) ?_
  refine eR.step 4 (F' := (34, [(0, .ref 3), (1, .int (nI (o))), (2, .int (nI ((fw d A.1 A.2 U).2.2.1)))], [.int (nI ((fw d A.1 A.2 U).2.2.1)), .ref 8, .int (nI 8)])) (h' := (Gc L xs (A.1, 0) B (fw d A.1 A.2 U) V S d X)) (fun _ _ => rfl) ?_
  have h7 := hd.1 (32 + (16 * (fw d A.1 A.2 U).2.2.1) + 2)
  have h8 := hd.1 (32 + (16 * (fw d A.1 A.2 U).2.2.1) + 2 + 1)
  refine eR.call (k' := 51) (as := [.ref 8, .int (nI ((fw d A.1 A.2 U).2.2.1))]) (rest := [.int (nI 8)]) (v := some (.int (nI (d (32 + (16 * (fw d A.1 A.2 U).2.2.1) + 2) + (256 * (d (32 + (16 * (fw d A.1 A.2 U).2.2.1) + 2 + 1))))))) (h1 := (Gc L xs (A.1, 0) B (fw d A.1 A.2 U) V S d X)) rfl rfl rfl rfl (eg (Nat.le_of_ble_eq_true rfl) (show 22 ≤ lo by omega) (Nat.le_of_ble_eq_true rfl)) (c_sizeI (show 21 ≤ lo - 22 by omega) hd hi) ?_
  refine eR.step 2 (F' := (39, [(0, .ref 3), (1, .int (nI (o))), (2, .int (nI ((fw d A.1 A.2 U).2.2.1)))], [.int (nI (d (32 + (16 * (fw d A.1 A.2 U).2.2.1) + 2) + (256 * (d (32 + (16 * (fw d A.1 A.2 U).2.2.1) + 2 + 1)))) - nI (o)), .int (nI 8)])) (h' := (Gc L xs (A.1, 0) B (fw d A.1 A.2 U) V S d X)) (fun _ _ => rfl) ?_
  refine eR.call (k' := 164) (as := [.int (nI 8), .int (nI (d (32 + (16 * (fw d A.1 A.2 U).2.2.1) + 2) + (256 * (d (32 + (16 * (fw d A.1 A.2 U).2.2.1) + 2 + 1)))) - nI (o))]) (rest := []) (v := some (.int (nI (d (32 + (16 * (fw d A.1 A.2 U).2.2.1) + 2) + (256 * (d (32 + (16 * (fw d A.1 A.2 U).2.2.1) + 2 + 1)))) - nI (o)))) (h1 := (Gc L xs (A.1, 0) B (fw d A.1 A.2 U) V S d X)) rfl rfl rfl rfl (eg (Nat.le_of_ble_eq_true rfl) (show 21 ≤ lo by omega) (Nat.le_of_ble_eq_true rfl)) (c_min_m (na_neg h3 ho)) ?_
  refine eR.step 7 (F' := (52, [(0, .ref 3), (1, .int (nI (o))), (2, .int (nI ((fw d A.1 A.2 U).2.2.1))), (3, .int (nI (d (32 + (16 * (fw d A.1 A.2 U).2.2.1) + 2) + (256 * (d (32 + (16 * (fw d A.1 A.2 U).2.2.1) + 2 + 1)))) - nI (o))), (4, .long (0)), (6, .int (nI 0))], [.int (nI (d (32 + (16 * (fw d A.1 A.2 U).2.2.1) + 2) + (256 * (d (32 + (16 * (fw d A.1 A.2 U).2.2.1) + 2 + 1)))) - nI (o)), .int (nI 0)])) (h' := (Gc L xs (A.1, 0) B (fw d A.1 A.2 U) V S d X)) (fun _ _ => rfl) ?_
  refine eR.icmp rfl true (mc_ge0 (na_neg h3 ho)) ?_
  refine eR.step 1 (F' := (87, [(0, .ref 3), (1, .int (nI (o))), (2, .int (nI ((fw d A.1 A.2 U).2.2.1))), (3, .int (nI (d (32 + (16 * (fw d A.1 A.2 U).2.2.1) + 2) + (256 * (d (32 + (16 * (fw d A.1 A.2 U).2.2.1) + 2 + 1)))) - nI (o))), (4, .long (0)), (6, .int (nI 0))], [.long (0)])) (h' := (Gc L xs (A.1, 0) B (fw d A.1 A.2 U) V S d X)) (fun _ _ => rfl) ?_
  exact eR.ret rfl rfl rfl
theorem c_writeT0 {cm sm fr lo L : Nat} {xs : Nat → Int32} {A B : gT} {U V : gU} {S : gS} {d : Nat → Nat} {X : mj_H} (hlo : 200 ≤ lo) (hR : gR cm sm L X) {p q : Int32} {w : Int64} (hd : dk d) (ht : ∀ k, A.1 k < 65536) (hl : A.2 ≤ 40) (hn : ∀ k, U.2.2.2 k < 128) (h0 : d 11 = 0) : eE mm_P cm sm (fr + 9) lo 98 [.ref 3, .int (p), .int (q), .long (w)] (Gc L xs A B U V S d X) (.inr (23 + X.length), (Gc L xs (A.1, 0) B (fw d A.1 A.2 U) V S d (X ++ [.inr (0, [])]))) := by
  refine eE.of ?_
  refine eR.step 1 (F' := (1, [(0, .ref 3), (1, .int (p)), (2, .int (q)), (3, .long (w))], [.ref 3])) (h' := (Gc L xs A B U V S d X)) (fun _ _ => rfl) ?_
  have hk := fw_pk (t := A.1) (l := A.2) hd hn
  have hp : (fw d A.1 A.2 U).1 < 2 ^ 20 := Nat.lt_trans hk.1 (by decide)
  have hi : (fw d A.1 A.2 U).2.2.1 < 2 ^ 20 := Nat.lt_trans hk.2.2.1 (by decide)
  refine eR.call (k' := 64) (as := [.ref 3]) (rest := []) (v := none) (h1 := (Gc L xs (A.1, 0) B (fw d A.1 A.2 U) V S d X)) rfl rfl rfl rfl (eg (Nat.le_of_ble_eq_true rfl) (show 20 ≤ lo by omega) (Nat.le_of_ble_eq_true rfl)) (c_takePath_15 (show 112 ≤ lo - 20 by omega) hd ht hl hn) ?_
  refine eR.step 3 (F' := (9, [(0, .ref 3), (1, .int (p)), (2, .int (q)), (3, .long (w))], [.ref 19, .ref 3])) (h' := (Gc L xs (A.1, 0) B (fw d A.1 A.2 U) V S d X)) (fun _ _ => rfl) ?_
  exact eR.callU (k' := 84) (as := [.ref 3, .ref 19]) (rest := []) (cx := 0) (fs := []) (h1 := (Gc L xs (A.1, 0) B (fw d A.1 A.2 U) V S d (X ++ [.inr (0, [])]))) rfl rfl rfl rfl (eg (Nat.le_of_ble_eq_true rfl) (show 22 ≤ lo by omega) (Nat.le_of_ble_eq_true rfl)) (c_file_19T0 (U := (fw d A.1 A.2 U)) (show 150 ≤ lo - 22 by omega) hR hd h0) (Gc_top ..) rfl rfl rfl
theorem c_writeT1 {cm sm fr lo L : Nat} {xs : Nat → Int32} {A B : gT} {U V : gU} {S : gS} {d : Nat → Nat} {X : mj_H} (hlo : 200 ≤ lo) (hR : gR cm sm L X) {p q : Int32} {w : Int64} (hd : dk d) (ht : ∀ k, A.1 k < 65536) (hl : A.2 ≤ 40) (hn : ∀ k, U.2.2.2 k < 128) (h0 : d 11 ≠ 0) (h1 : (fw d A.1 A.2 U).2.2.1 = 0) : eE mm_P cm sm (fr + 9) lo 98 [.ref 3, .int (p), .int (q), .long (w)] (Gc L xs A B U V S d X) (.inr (23 + X.length), (Gc L xs (A.1, 0) B (fw d A.1 A.2 U) V S d (X ++ [.inr (1, [])]))) := by
  refine eE.of ?_
  refine eR.step 1 (F' := (1, [(0, .ref 3), (1, .int (p)), (2, .int (q)), (3, .long (w))], [.ref 3])) (h' := (Gc L xs A B U V S d X)) (fun _ _ => rfl) ?_
  have hk := fw_pk (t := A.1) (l := A.2) hd hn
  have hp : (fw d A.1 A.2 U).1 < 2 ^ 20 := Nat.lt_trans hk.1 (by decide)
  have hi : (fw d A.1 A.2 U).2.2.1 < 2 ^ 20 := Nat.lt_trans hk.2.2.1 (by decide)
  refine eR.call (k' := 64) (as := [.ref 3]) (rest := []) (v := none) (h1 := (Gc L xs (A.1, 0) B (fw d A.1 A.2 U) V S d X)) rfl rfl rfl rfl (eg (Nat.le_of_ble_eq_true rfl) (show 20 ≤ lo by omega) (Nat.le_of_ble_eq_true rfl)) (c_takePath_15 (show 112 ≤ lo - 20 by omega) hd ht hl hn) ?_
  refine eR.step 3 (F' := (9, [(0, .ref 3), (1, .int (p)), (2, .int (q)), (3, .long (w))], [.ref 19, .ref 3])) (h' := (Gc L xs (A.1, 0) B (fw d A.1 A.2 U) V S d X)) (fun _ _ => rfl) ?_
  exact eR.callU (k' := 84) (as := [.ref 3, .ref 19]) (rest := []) (cx := 1) (fs := []) (h1 := (Gc L xs (A.1, 0) B (fw d A.1 A.2 U) V S d (X ++ [.inr (1, [])]))) rfl rfl rfl rfl (eg (Nat.le_of_ble_eq_true rfl) (show 22 ≤ lo by omega) (Nat.le_of_ble_eq_true rfl)) (c_file_19T1 (U := (fw d A.1 A.2 U)) (show 150 ≤ lo - 22 by omega) hR hd h0 h1) (Gc_top ..) rfl rfl rfl
theorem c_writeT2 {cm sm fr lo L : Nat} {xs : Nat → Int32} {A B : gT} {U V : gU} {S : gS} {d : Nat → Nat} {X : mj_H} (hlo : 200 ≤ lo) (hR : gR cm sm L X) {p q : Int32} {w : Int64} (hd : dk d) (ht : ∀ k, A.1 k < 65536) (hl : A.2 ≤ 40) (hn : ∀ k, U.2.2.2 k < 128) (h0 : d 11 ≠ 0) (h1 : (fw d A.1 A.2 U).2.2.1 ≠ 0) (h2 : d (32 + (16 * (fw d A.1 A.2 U).2.2.1)) = 2) : eE mm_P cm sm (fr + 9) lo 98 [.ref 3, .int (p), .int (q), .long (w)] (Gc L xs A B U V S d X) (.inr (23 + X.length), (Gc L xs (A.1, 0) B (fw d A.1 A.2 U) V S d (X ++ [.inr (2, [])]))) := by
  refine eE.of ?_
  refine eR.step 1 (F' := (1, [(0, .ref 3), (1, .int (p)), (2, .int (q)), (3, .long (w))], [.ref 3])) (h' := (Gc L xs A B U V S d X)) (fun _ _ => rfl) ?_
  have hk := fw_pk (t := A.1) (l := A.2) hd hn
  have hp : (fw d A.1 A.2 U).1 < 2 ^ 20 := Nat.lt_trans hk.1 (by decide)
  have hi : (fw d A.1 A.2 U).2.2.1 < 2 ^ 20 := Nat.lt_trans hk.2.2.1 (by decide)
  refine eR.call (k' := 64) (as := [.ref 3]) (rest := []) (v := none) (h1 := (Gc L xs (A.1, 0) B (fw d A.1 A.2 U) V S d X)) rfl rfl rfl rfl (eg (Nat.le_of_ble_eq_true rfl) (show 20 ≤ lo by omega) (Nat.le_of_ble_eq_true rfl)) (c_takePath_15 (show 112 ≤ lo - 20 by omega) hd ht hl hn) ?_
  refine eR.step 3 (F' := (9, [(0, .ref 3), (1, .int (p)), (2, .int (q)), (3, .long (w))], [.ref 19, .ref 3])) (h' := (Gc L xs (A.1, 0) B (fw d A.1 A.2 U) V S d X)) (fun _ _ => rfl) ?_
  exact eR.callU (k' := 84) (as := [.ref 3, .ref 19]) (rest := []) (cx := 2) (fs := []) (h1 := (Gc L xs (A.1, 0) B (fw d A.1 A.2 U) V S d (X ++ [.inr (2, [])]))) rfl rfl rfl rfl (eg (Nat.le_of_ble_eq_true rfl) (show 22 ≤ lo by omega) (Nat.le_of_ble_eq_true rfl)) (c_file_19T2 (U := (fw d A.1 A.2 U)) (show 150 ≤ lo - 22 by omega) hR hd h0 hi h1 h2) (Gc_top ..) rfl rfl rfl
theorem c_writeT3 {cm sm fr lo L : Nat} {xs : Nat → Int32} {A B : gT} {U V : gU} {S : gS} {d : Nat → Nat} {X : mj_H} (hlo : 200 ≤ lo) (hR : gR cm sm L X) {p q : Int32} {w : Int64} (h3 : mj_cmp .lt q (nI 1) = true) (hd : dk d) (ht : ∀ k, A.1 k < 65536) (hl : A.2 ≤ 40) (hn : ∀ k, U.2.2.2 k < 128) (h0 : d 11 ≠ 0) (h1 : (fw d A.1 A.2 U).2.2.1 ≠ 0) (h2 : d (32 + (16 * (fw d A.1 A.2 U).2.2.1)) ≠ 2)  : eE mm_P cm sm (fr + 9) lo 98 [.ref 3, .int (p), .int (q), .long (w)] (Gc L xs A B U V S d X) (.inr (23 + X.length), (Gc L xs (A.1, 0) B (fw d A.1 A.2 U) V S d (X ++ [.inr (3, [])]))) := by
  refine eE.of ?_
  refine eR.step 1 (F' := (1, [(0, .ref 3), (1, .int (p)), (2, .int (q)), (3, .long (w))], [.ref 3])) (h' := (Gc L xs A B U V S d X)) (fun _ _ => rfl) ?_
  have hk := fw_pk (t := A.1) (l := A.2) hd hn
  have hp : (fw d A.1 A.2 U).1 < 2 ^ 20 := Nat.lt_trans hk.1 (by decide)
  have hi : (fw d A.1 A.2 U).2.2.1 < 2 ^ 20 := Nat.lt_trans hk.2.2.1 (by decide)
  refine eR.call (k' := 64) (as := [.ref 3]) (rest := []) (v := none) (h1 := (Gc L xs (A.1, 0) B (fw d A.1 A.2 U) V S d X)) rfl rfl rfl rfl (eg (Nat.le_of_ble_eq_true rfl) (show 20 ≤ lo by omega) (Nat.le_of_ble_eq_true rfl)) (c_takePath_15 (show 112 ≤ lo - 20 by omega) hd ht hl hn) ?_
  refine eR.step 3 (F' := (9, [(0, .ref 3), (1, .int (p)), (2, .int (q)), (3, .long (w))], [.ref 19, .ref 3])) (h' := (Gc L xs (A.1, 0) B (fw d A.1 A.2 U) V S d X)) (fun _ _ => rfl) ?_
  refine eR.call (k' := 84) (as := [.ref 3, .ref 19]) (rest := []) (v := some (.int (nI ((fw d A.1 A.2 U).2.2.1)))) (h1 := (Gc L xs (A.1, 0) B (fw d A.1 A.2 U) V S d X)) rfl rfl rfl rfl (eg (Nat.le_of_ble_eq_true rfl) (show 22 ≤ lo by omega) (Nat.le_of_ble_eq_true rfl)) (c_file_19 (U := (fw d A.1 A.2 U)) (show 62 ≤ lo - 22 by omega) hd h0 hi h1 h2) ?_
  refine eR.step 3 (F' := (16, [(0, .ref 3), (1, .int (p)), (2, .int (q)), (3, .long (w)), (5, .int (nI ((fw d A.1 A.2 U).2.2.1)))], [.int (nI 1), .int (q)])) (h' := (Gc L xs (A.1, 0) B (fw d A.1 A.2 U) V S d X)) (fun _ _ => rfl) ?_
  refine eR.icmp rfl true h3 ?_
  exact thrH (cx := 3) rfl rfl rfl rfl rfl rfl rfl (by omega) (by omega) hR
theorem c_writeT4 {cm sm fr lo L : Nat} {xs : Nat → Int32} {A B : gT} {U V : gU} {S : gS} {d : Nat → Nat} {X : mj_H} (hlo : 200 ≤ lo) (hR : gR cm sm L X) {p : Int32} {n : Nat} {w : Int64} (hn8 : n < 2 ^ 31) (h3 : 8 < n) (hd : dk d) (ht : ∀ k, A.1 k < 65536) (hl : A.2 ≤ 40) (hn : ∀ k, U.2.2.2 k < 128) (h0 : d 11 ≠ 0) (h1 : (fw d A.1 A.2 U).2.2.1 ≠ 0) (h2 : d (32 + (16 * (fw d A.1 A.2 U).2.2.1)) ≠ 2)  : eE mm_P cm sm (fr + 9) lo 98 [.ref 3, .int (p), .int (nI (n)), .long (w)] (Gc L xs A B U V S d X) (.inr (23 + X.length), (Gc L xs (A.1, 0) B (fw d A.1 A.2 U) V S d (X ++ [.inr (3, [])]))) := by
  refine eE.of ?_
  refine eR.step 1 (F' := (1, [(0, .ref 3), (1, .int (p)), (2, .int (nI (n))), (3, .long (w))], [.ref 3])) (h' := (Gc L xs A B U V S d X)) (fun _ _ => rfl) ?_
  have hk := fw_pk (t := A.1) (l := A.2) hd hn
  have hp : (fw d A.1 A.2 U).1 < 2 ^ 20 := Nat.lt_trans hk.1 (by decide)
  have hi : (fw d A.1 A.2 U).2.2.1 < 2 ^ 20 := Nat.lt_trans hk.2.2.1 (by decide)
  refine eR.call (k' := 64) (as := [.ref 3]) (rest := []) (v := none) (h1 := (Gc L xs (A.1, 0) B (fw d A.1 A.2 U) V S d X)) rfl rfl rfl rfl (eg (Nat.le_of_ble_eq_true rfl) (show 20 ≤ lo by omega) (Nat.le_of_ble_eq_true rfl)) (c_takePath_15 (show 112 ≤ lo - 20 by omega) hd ht hl hn) ?_
  refine eR.step 3 (F' := (9, [(0, .ref 3), (1, .int (p)), (2, .int (nI (n))), (3, .long (w))], [.ref 19, .ref 3])) (h' := (Gc L xs (A.1, 0) B (fw d A.1 A.2 U) V S d X)) (fun _ _ => rfl) ?_
  refine eR.call (k' := 84) (as := [.ref 3, .ref 19]) (rest := []) (v := some (.int (nI ((fw d A.1 A.2 U).2.2.1)))) (h1 := (Gc L xs (A.1, 0) B (fw d A.1 A.2 U) V S d X)) rfl rfl rfl rfl (eg (Nat.le_of_ble_eq_true rfl) (show 22 ≤ lo by omega) (Nat.le_of_ble_eq_true rfl)) (c_file_19 (U := (fw d A.1 A.2 U)) (show 62 ≤ lo - 22 by omega) hd h0 hi h1 h2) ?_
  refine eR.step 3 (F' := (16, [(0, .ref 3), (1, .int (p)), (2, .int (nI (n))), (3, .long (w)), (5, .int (nI ((fw d A.1 A.2 U).2.2.1)))], [.int (nI 1), .int (nI (n))])) (h' := (Gc L xs (A.1, 0) B (fw d A.1 A.2 U) V S d X)) (fun _ _ => rfl) ?_
  refine eR.icmp rfl false ((nc_lt (by omega) (by omega)).trans (decide_eq_false (by omega))) ?_
  refine eR.step 2 (F' := (22, [(0, .ref 3), (1, .int (p)), (2, .int (nI (n))), (3, .long (w)), (5, .int (nI ((fw d A.1 A.2 U).2.2.1)))], [.int (nI 8), .int (nI (n))])) (h' := (Gc L xs (A.1, 0) B (fw d A.1 A.2 U) V S d X)) (fun _ _ => rfl) ?_
  refine eR.icmp rfl true ((nc_gt (by omega) (by omega)).trans (decide_eq_true (by omega))) ?_
  exact thrH (cx := 3) rfl rfl rfl rfl rfl rfl rfl (by omega) (by omega) hR
theorem c_writeT5 {cm sm fr lo L : Nat} {xs : Nat → Int32} {A B : gT} {U V : gU} {S : gS} {d : Nat → Nat} {X : mj_H} (hlo : 200 ≤ lo) (hR : gR cm sm L X) {p : Int32} {n : Nat} {w : Int64} (h3 : 1 ≤ n) (h4 : n ≤ 8) (h5 : p < 0) (hd : dk d) (ht : ∀ k, A.1 k < 65536) (hl : A.2 ≤ 40) (hn : ∀ k, U.2.2.2 k < 128) (h0 : d 11 ≠ 0) (h1 : (fw d A.1 A.2 U).2.2.1 ≠ 0) (h2 : d (32 + (16 * (fw d A.1 A.2 U).2.2.1)) ≠ 2)  : eE mm_P cm sm (fr + 9) lo 98 [.ref 3, .int (p), .int (nI (n)), .long (w)] (Gc L xs A B U V S d X) (.inr (23 + X.length), (Gc L xs (A.1, 0) B (fw d A.1 A.2 U) V S d (X ++ [.inr (3, [])]))) := by
  refine eE.of ?_
  refine eR.step 1 (F' := (1, [(0, .ref 3), (1, .int (p)), (2, .int (nI (n))), (3, .long (w))], [.ref 3])) (h' := (Gc L xs A B U V S d X)) (fun _ _ => rfl) ?_
  have hk := fw_pk (t := A.1) (l := A.2) hd hn
  have hp : (fw d A.1 A.2 U).1 < 2 ^ 20 := Nat.lt_trans hk.1 (by decide)
  have hi : (fw d A.1 A.2 U).2.2.1 < 2 ^ 20 := Nat.lt_trans hk.2.2.1 (by decide)
  refine eR.call (k' := 64) (as := [.ref 3]) (rest := []) (v := none) (h1 := (Gc L xs (A.1, 0) B (fw d A.1 A.2 U) V S d X)) rfl rfl rfl rfl (eg (Nat.le_of_ble_eq_true rfl) (show 20 ≤ lo by omega) (Nat.le_of_ble_eq_true rfl)) (c_takePath_15 (show 112 ≤ lo - 20 by omega) hd ht hl hn) ?_
  refine eR.step 3 (F' := (9, [(0, .ref 3), (1, .int (p)), (2, .int (nI (n))), (3, .long (w))], [.ref 19, .ref 3])) (h' := (Gc L xs (A.1, 0) B (fw d A.1 A.2 U) V S d X)) (fun _ _ => rfl) ?_
  refine eR.call (k' := 84) (as := [.ref 3, .ref 19]) (rest := []) (v := some (.int (nI ((fw d A.1 A.2 U).2.2.1)))) (h1 := (Gc L xs (A.1, 0) B (fw d A.1 A.2 U) V S d X)) rfl rfl rfl rfl (eg (Nat.le_of_ble_eq_true rfl) (show 22 ≤ lo by omega) (Nat.le_of_ble_eq_true rfl)) (c_file_19 (U := (fw d A.1 A.2 U)) (show 62 ≤ lo - 22 by omega) hd h0 hi h1 h2) ?_
  refine eR.step 3 (F' := (16, [(0, .ref 3), (1, .int (p)), (2, .int (nI (n))), (3, .long (w)), (5, .int (nI ((fw d A.1 A.2 U).2.2.1)))], [.int (nI 1), .int (nI (n))])) (h' := (Gc L xs (A.1, 0) B (fw d A.1 A.2 U) V S d X)) (fun _ _ => rfl) ?_
  refine eR.icmp rfl false ((nc_lt (by omega) (by omega)).trans (decide_eq_false (by omega))) ?_
  refine eR.step 2 (F' := (22, [(0, .ref 3), (1, .int (p)), (2, .int (nI (n))), (3, .long (w)), (5, .int (nI ((fw d A.1 A.2 U).2.2.1)))], [.int (nI 8), .int (nI (n))])) (h' := (Gc L xs (A.1, 0) B (fw d A.1 A.2 U) V S d X)) (fun _ _ => rfl) ?_
  refine eR.icmp rfl false ((nc_gt (by omega) (by omega)).trans (decide_eq_false (by omega))) ?_
  refine eR.step 1 (F' := (26, [(0, .ref 3), (1, .int (p)), (2, .int (nI (n))), (3, .long (w)), (5, .int (nI ((fw d A.1 A.2 U).2.2.1)))], [.int (p)])) (h' := (Gc L xs (A.1, 0) B (fw d A.1 A.2 U) V S d X)) (fun _ _ => rfl) ?_
  refine eR.ifc rfl true (decide_eq_true h5) ?_
  exact thrH (cx := 3) rfl rfl rfl rfl rfl rfl rfl (by omega) (by omega) hR
theorem c_writeT6 {cm sm fr lo L : Nat} {xs : Nat → Int32} {A B : gT} {U V : gU} {S : gS} {d : Nat → Nat} {X : mj_H} (hlo : 200 ≤ lo) (hR : gR cm sm L X) {o n : Nat} {w : Int64} (ho : o < 2 ^ 31) (h3 : 1 ≤ n) (h4 : n ≤ 8) (h5 : 1216 < o + n) (hd : dk d) (ht : ∀ k, A.1 k < 65536) (hl : A.2 ≤ 40) (hn : ∀ k, U.2.2.2 k < 128) (h0 : d 11 ≠ 0) (h1 : (fw d A.1 A.2 U).2.2.1 ≠ 0) (h2 : d (32 + (16 * (fw d A.1 A.2 U).2.2.1)) ≠ 2)  : eE mm_P cm sm (fr + 9) lo 98 [.ref 3, .int (nI (o)), .int (nI (n)), .long (w)] (Gc L xs A B U V S d X) (.inr (23 + X.length), (Gc L xs (A.1, 0) B (fw d A.1 A.2 U) V S d (X ++ [.inr (3, [])]))) := by
  refine eE.of ?_
  refine eR.step 1 (F' := (1, [(0, .ref 3), (1, .int (nI (o))), (2, .int (nI (n))), (3, .long (w))], [.ref 3])) (h' := (Gc L xs A B U V S d X)) (fun _ _ => rfl) ?_
  have hk := fw_pk (t := A.1) (l := A.2) hd hn
  have hp : (fw d A.1 A.2 U).1 < 2 ^ 20 := Nat.lt_trans hk.1 (by decide)
  have hi : (fw d A.1 A.2 U).2.2.1 < 2 ^ 20 := Nat.lt_trans hk.2.2.1 (by decide)
  refine eR.call (k' := 64) (as := [.ref 3]) (rest := []) (v := none) (h1 := (Gc L xs (A.1, 0) B (fw d A.1 A.2 U) V S d X)) rfl rfl rfl rfl (eg (Nat.le_of_ble_eq_true rfl) (show 20 ≤ lo by omega) (Nat.le_of_ble_eq_true rfl)) (c_takePath_15 (show 112 ≤ lo - 20 by omega) hd ht hl hn) ?_
  refine eR.step 3 (F' := (9, [(0, .ref 3), (1, .int (nI (o))), (2, .int (nI (n))), (3, .long (w))], [.ref 19, .ref 3])) (h' := (Gc L xs (A.1, 0) B (fw d A.1 A.2 U) V S d X)) (fun _ _ => rfl) ?_
  refine eR.call (k' := 84) (as := [.ref 3, .ref 19]) (rest := []) (v := some (.int (nI ((fw d A.1 A.2 U).2.2.1)))) (h1 := (Gc L xs (A.1, 0) B (fw d A.1 A.2 U) V S d X)) rfl rfl rfl rfl (eg (Nat.le_of_ble_eq_true rfl) (show 22 ≤ lo by omega) (Nat.le_of_ble_eq_true rfl)) (c_file_19 (U := (fw d A.1 A.2 U)) (show 62 ≤ lo - 22 by omega) hd h0 hi h1 h2) ?_
  refine eR.step 3 (F' := (16, [(0, .ref 3), (1, .int (nI (o))), (2, .int (nI (n))), (3, .long (w)), (5, .int (nI ((fw d A.1 A.2 U).2.2.1)))], [.int (nI 1), .int (nI (n))])) (h' := (Gc L xs (A.1, 0) B (fw d A.1 A.2 U) V S d X)) (fun _ _ => rfl) ?_
  refine eR.icmp rfl false ((nc_lt (by omega) (by omega)).trans (decide_eq_false (by omega))) ?_
  refine eR.step 2 (F' := (22, [(0, .ref 3), (1, .int (nI (o))), (2, .int (nI (n))), (3, .long (w)), (5, .int (nI ((fw d A.1 A.2 U).2.2.1)))], [.int (nI 8), .int (nI (n))])) (h' := (Gc L xs (A.1, 0) B (fw d A.1 A.2 U) V S d X)) (fun _ _ => rfl) ?_
  refine eR.icmp rfl false ((nc_gt (by omega) (by omega)).trans (decide_eq_false (by omega))) ?_
  refine eR.step 1 (F' := (26, [(0, .ref 3), (1, .int (nI (o))), (2, .int (nI (n))), (3, .long (w)), (5, .int (nI ((fw d A.1 A.2 U).2.2.1)))], [.int (nI (o))])) (h' := (Gc L xs (A.1, 0) B (fw d A.1 A.2 U) V S d X)) (fun _ _ => rfl) ?_
  refine eR.ifc rfl false ((nc_lt (b := 0) (by omega) (by decide)).trans (decide_eq_false (by omega))) ?_
  refine eR.step 3 (F' := (34, [(0, .ref 3), (1, .int (nI (o))), (2, .int (nI (n))), (3, .long (w)), (5, .int (nI ((fw d A.1 A.2 U).2.2.1)))], [.int (nI (n)), .int (nI 1216), .int (nI (o))])) (h' := (Gc L xs (A.1, 0) B (fw d A.1 A.2 U) V S d X)) (fun _ _ => rfl) ?_
  refine eR.nsub rfl (by omega) ?_
  refine eR.icmp rfl false ((nc_le (by omega) (by omega)).trans (decide_eq_false (by omega))) ?_
  exact thrH (cx := 3) rfl rfl rfl rfl rfl rfl rfl (by omega) (by omega) hR
theorem bw_lt (d : Nat → Nat) (i : Nat) {u v : Nat} (h : v < 2 ^ 20) : bw d i u v < 2 ^ 30 := by
  have := ho_le d i (v + 1 - u) u
  unfold bw
  split <;> omega
theorem c_writeT7 {cm sm fr lo L : Nat} {xs : Nat → Int32} {A B : gT} {U V : gU} {S : gS} {d : Nat → Nat} {X : mj_H} (hlo : 200 ≤ lo) (hR : gR cm sm L X) {o n : Nat} {w : Int64} (h3 : 1 ≤ n) (h4 : n ≤ 8) (h5 : o + n ≤ 1216) (hd : dk d) (ht : ∀ k, A.1 k < 65536) (hl : A.2 ≤ 40) (hn : ∀ k, U.2.2.2 k < 128) (h0 : d 11 ≠ 0) (h1 : (fw d A.1 A.2 U).2.2.1 ≠ 0) (h2 : d (32 + (16 * (fw d A.1 A.2 U).2.2.1)) ≠ 2) (h6 : cf d 3 9 55 < bw d (fw d A.1 A.2 U).2.2.1 (o / 32) ((o + n - 1) / 32)) : eE mm_P cm sm (fr + 9) lo 98 [.ref 3, .int (nI (o)), .int (nI (n)), .long (w)] (Gc L xs A B U V S d X) (.inr (23 + X.length), (Gc L xs (A.1, 0) B (fw d A.1 A.2 U) V S d (X ++ [.inr (0, [])]))) := by
  refine eE.of ?_
  refine eR.step 1 (F' := (1, [(0, .ref 3), (1, .int (nI (o))), (2, .int (nI (n))), (3, .long (w))], [.ref 3])) (h' := (Gc L xs A B U V S d X)) (fun _ _ => rfl) ?_
  have hk := fw_pk (t := A.1) (l := A.2) hd hn
  have hp : (fw d A.1 A.2 U).1 < 2 ^ 20 := Nat.lt_trans hk.1 (by decide)
  have hi : (fw d A.1 A.2 U).2.2.1 < 2 ^ 20 := Nat.lt_trans hk.2.2.1 (by decide)
  refine eR.call (k' := 64) (as := [.ref 3]) (rest := []) (v := none) (h1 := (Gc L xs (A.1, 0) B (fw d A.1 A.2 U) V S d X)) rfl rfl rfl rfl (eg (Nat.le_of_ble_eq_true rfl) (show 20 ≤ lo by omega) (Nat.le_of_ble_eq_true rfl)) (c_takePath_15 (show 112 ≤ lo - 20 by omega) hd ht hl hn) ?_
  refine eR.step 3 (F' := (9, [(0, .ref 3), (1, .int (nI (o))), (2, .int (nI (n))), (3, .long (w))], [.ref 19, .ref 3])) (h' := (Gc L xs (A.1, 0) B (fw d A.1 A.2 U) V S d X)) (fun _ _ => rfl) ?_
  refine eR.call (k' := 84) (as := [.ref 3, .ref 19]) (rest := []) (v := some (.int (nI ((fw d A.1 A.2 U).2.2.1)))) (h1 := (Gc L xs (A.1, 0) B (fw d A.1 A.2 U) V S d X)) rfl rfl rfl rfl (eg (Nat.le_of_ble_eq_true rfl) (show 22 ≤ lo by omega) (Nat.le_of_ble_eq_true rfl)) (c_file_19 (U := (fw d A.1 A.2 U)) (show 62 ≤ lo - 22 by omega) hd h0 hi h1 h2) ?_
  refine eR.step 3 (F' := (16, [(0, .ref 3), (1, .int (nI (o))), (2, .int (nI (n))), (3, .long (w)), (5, .int (nI ((fw d A.1 A.2 U).2.2.1)))], [.int (nI 1), .int (nI (n))])) (h' := (Gc L xs (A.1, 0) B (fw d A.1 A.2 U) V S d X)) (fun _ _ => rfl) ?_
  refine eR.icmp rfl false ((nc_lt (by omega) (by omega)).trans (decide_eq_false (by omega))) ?_
  refine eR.step 2 (F' := (22, [(0, .ref 3), (1, .int (nI (o))), (2, .int (nI (n))), (3, .long (w)), (5, .int (nI ((fw d A.1 A.2 U).2.2.1)))], [.int (nI 8), .int (nI (n))])) (h' := (Gc L xs (A.1, 0) B (fw d A.1 A.2 U) V S d X)) (fun _ _ => rfl) ?_
  refine eR.icmp rfl false ((nc_gt (by omega) (by omega)).trans (decide_eq_false (by omega))) ?_
  refine eR.step 1 (F' := (26, [(0, .ref 3), (1, .int (nI (o))), (2, .int (nI (n))), (3, .long (w)), (5, .int (nI ((fw d A.1 A.2 U).2.2.1)))], [.int (nI (o))])) (h' := (Gc L xs (A.1, 0) B (fw d A.1 A.2 U) V S d X)) (fun _ _ => rfl) ?_
  refine eR.ifc rfl false ((nc_lt (b := 0) (by omega) (by decide)).trans (decide_eq_false (by omega))) ?_
  refine eR.step 3 (F' := (34, [(0, .ref 3), (1, .int (nI (o))), (2, .int (nI (n))), (3, .long (w)), (5, .int (nI ((fw d A.1 A.2 U).2.2.1)))], [.int (nI (n)), .int (nI 1216), .int (nI (o))])) (h' := (Gc L xs (A.1, 0) B (fw d A.1 A.2 U) V S d X)) (fun _ _ => rfl) ?_
  refine eR.nsub rfl (by omega) ?_
  refine eR.icmp rfl true ((nc_le (by omega) (by omega)).trans (decide_eq_true (by omega))) ?_
  refine eR.step 2 (F' := (50, [(0, .ref 3), (1, .int (nI (o))), (2, .int (nI (n))), (3, .long (w)), (5, .int (nI ((fw d A.1 A.2 U).2.2.1)))], [.int (nI (n)), .int (nI (o))])) (h' := (Gc L xs (A.1, 0) B (fw d A.1 A.2 U) V S d X)) (fun _ _ => rfl) ?_
  refine eR.nadd rfl ?_
  refine eR.step 3 (F' := (56, [(0, .ref 3), (1, .int (nI (o))), (2, .int (nI (n))), (3, .long (w)), (5, .int (nI ((fw d A.1 A.2 U).2.2.1))), (6, .int (nI (o + n)))], [.int (nI 32), .int (nI (o))])) (h' := (Gc L xs (A.1, 0) B (fw d A.1 A.2 U) V S d X)) (fun _ _ => rfl) ?_
  refine eR.ndiv rfl (by omega) (by decide) (by decide) ?_
  refine eR.step 3 (F' := (62, [(0, .ref 3), (1, .int (nI (o))), (2, .int (nI (n))), (3, .long (w)), (5, .int (nI ((fw d A.1 A.2 U).2.2.1))), (6, .int (nI (o + n))), (7, .int (nI (o / 32)))], [.int (nI 1), .int (nI (o + n))])) (h' := (Gc L xs (A.1, 0) B (fw d A.1 A.2 U) V S d X)) (fun _ _ => rfl) ?_
  refine eR.nsub rfl (by omega) ?_
  refine eR.step 1 (F' := (65, [(0, .ref 3), (1, .int (nI (o))), (2, .int (nI (n))), (3, .long (w)), (5, .int (nI ((fw d A.1 A.2 U).2.2.1))), (6, .int (nI (o + n))), (7, .int (nI (o / 32)))], [.int (nI 32), .int (nI ((o + n) - 1))])) (h' := (Gc L xs (A.1, 0) B (fw d A.1 A.2 U) V S d X)) (fun _ _ => rfl) ?_
  refine eR.ndiv rfl (by omega) (by decide) (by decide) ?_
  refine eR.step 6 (F' := (78, [(0, .ref 3), (1, .int (nI (o))), (2, .int (nI (n))), (3, .long (w)), (5, .int (nI ((fw d A.1 A.2 U).2.2.1))), (6, .int (nI (o + n))), (7, .int (nI (o / 32))), (8, .int (nI (((o + n) - 1) / 32)))], [.int (nI (((o + n) - 1) / 32)), .int (nI (o / 32)), .int (nI ((fw d A.1 A.2 U).2.2.1)), .ref 8])) (h' := (Gc L xs (A.1, 0) B (fw d A.1 A.2 U) V S d X)) (fun _ _ => rfl) ?_
  refine eR.call (k' := 78) (as := [.ref 8, .int (nI ((fw d A.1 A.2 U).2.2.1)), .int (nI (o / 32)), .int (nI (((o + n) - 1) / 32))]) (rest := []) (v := some (.int (nI (bw d (fw d A.1 A.2 U).2.2.1 (o / 32) ((o + n - 1) / 32))))) (h1 := (Gc L xs (A.1, 0) B (fw d A.1 A.2 U) V S d X)) rfl rfl rfl rfl (eg (Nat.le_of_ble_eq_true rfl) (show 25 ≤ lo by omega) (Nat.le_of_ble_eq_true rfl)) (c_wanted (show 66 ≤ lo - 25 by omega) hd hi (by omega) (by omega)) ?_
  refine eR.step 2 (F' := (85, [(0, .ref 3), (1, .int (nI (o))), (2, .int (nI (n))), (3, .long (w)), (5, .int (nI ((fw d A.1 A.2 U).2.2.1))), (6, .int (nI (o + n))), (7, .int (nI (o / 32))), (8, .int (nI (((o + n) - 1) / 32)))], [.ref 7, .int (nI (bw d (fw d A.1 A.2 U).2.2.1 (o / 32) ((o + n - 1) / 32)))])) (h' := (Gc L xs (A.1, 0) B (fw d A.1 A.2 U) V S d X)) (fun _ _ => rfl) ?_
  have h9 := cf_le d 3 55 9
  have hbw : bw d (fw d A.1 A.2 U).2.2.1 (o / 32) ((o + n - 1) / 32) < 2 ^ 30 := bw_lt d _ (by omega)
  refine eR.call (k' := 62) (as := [.ref 7]) (rest := [.int (nI (bw d (fw d A.1 A.2 U).2.2.1 (o / 32) ((o + n - 1) / 32)))]) (v := some (.int (nI (cf d 3 9 55)))) (h1 := (Gc L xs (A.1, 0) B (fw d A.1 A.2 U) V S d X)) rfl rfl rfl rfl (eg (Nat.le_of_ble_eq_true rfl) (show 22 ≤ lo by omega) (Nat.le_of_ble_eq_true rfl)) (c_left_7 (show 23 ≤ lo - 22 by omega) hd) ?_
  refine eR.icmp rfl false ((nc_le (by omega) (by omega)).trans (decide_eq_false (by omega))) ?_
  exact thrH (cx := 0) rfl rfl rfl rfl rfl rfl rfl (by omega) (by omega) hR
theorem l_wfill {cm sm fr lo L : Nat} {xs : Nat → Int32} {A B : gT} {U V : gU} {S : gS} {X : mj_H} (hlo : 132 ≤ lo) {i o n e u v : Nat} {w : Int64} (hi : i < 2 ^ 20) {r : mj_O × mj_H}  (hv : v < 2 ^ 14) : ∀ (q p : Nat) (d : Nat → Nat), dk d → p + q = v + 1 → eR mm_P cm sm (fr + 7) lo 98 (129, [(0, .ref 3), (1, .int (nI (o))), (2, .int (nI (n))), (3, .long (w)), (5, .int (nI (i))), (6, .int (nI (e))), (7, .int (nI (u))), (8, .int (nI (v))), (9, .int (nI (v + 1)))], []) (Gc L xs A B U V S (fn i d p q) X) r → eR mm_P cm sm (fr + 7) lo 98 (105, [(0, .ref 3), (1, .int (nI (o))), (2, .int (nI (n))), (3, .long (w)), (5, .int (nI (i))), (6, .int (nI (e))), (7, .int (nI (u))), (8, .int (nI (v))), (9, .int (nI (p)))], []) (Gc L xs A B U V S d X) r
  | 0, p, d, hd, hg, w0 => by
    refine eR.step 2 (F' := (109, [(0, .ref 3), (1, .int (nI (o))), (2, .int (nI (n))), (3, .long (w)), (5, .int (nI (i))), (6, .int (nI (e))), (7, .int (nI (u))), (8, .int (nI (v))), (9, .int (nI (p)))], [.int (nI (v)), .int (nI (p))])) (h' := (Gc L xs A B U V S d X)) (fun _ _ => rfl) ?_
    refine eR.icmp rfl true ((nc_gt (by omega) (by omega)).trans (decide_eq_true (by omega))) ?_
    have e0 : p = v + 1 := by omega
    subst e0
    exact w0
  | q + 1, p, d, hd, hg, w0 => by
    refine eR.step 2 (F' := (109, [(0, .ref 3), (1, .int (nI (o))), (2, .int (nI (n))), (3, .long (w)), (5, .int (nI (i))), (6, .int (nI (e))), (7, .int (nI (u))), (8, .int (nI (v))), (9, .int (nI (p)))], [.int (nI (v)), .int (nI (p))])) (h' := (Gc L xs A B U V S d X)) (fun _ _ => rfl) ?_
    refine eR.icmp rfl false ((nc_gt (by omega) (by omega)).trans (decide_eq_false (by omega))) ?_
    refine eR.step 4 (F' := (120, [(0, .ref 3), (1, .int (nI (o))), (2, .int (nI (n))), (3, .long (w)), (5, .int (nI (i))), (6, .int (nI (e))), (7, .int (nI (u))), (8, .int (nI (v))), (9, .int (nI (p)))], [.int (nI (p)), .int (nI (i)), .ref 8])) (h' := (Gc L xs A B U V S d X)) (fun _ _ => rfl) ?_
    refine eR.call (k' := 18) (as := [.ref 8, .int (nI (i)), .int (nI (p))]) (rest := []) (v := none) (h1 := (Gc L xs A B U V S (fh d i p) X)) rfl rfl rfl rfl (eg (Nat.le_of_ble_eq_true rfl) (show 23 ≤ lo by omega) (Nat.le_of_ble_eq_true rfl)) (c_fill (show 66 ≤ lo - 23 by omega) hd hi (by omega)) ?_
    refine eR.step 1 (F' := (126, [(0, .ref 3), (1, .int (nI (o))), (2, .int (nI (n))), (3, .long (w)), (5, .int (nI (i))), (6, .int (nI (e))), (7, .int (nI (u))), (8, .int (nI (v))), (9, .int (nI (p) + 1))], [])) (h' := (Gc L xs A B U V S (fh d i p) X)) (fun _ _ => rfl) ?_
    rw [show nI (p) + 1 = nI (p + 1) from nI_add (p) 1]
    refine eR.step 1 (F' := (105, [(0, .ref 3), (1, .int (nI (o))), (2, .int (nI (n))), (3, .long (w)), (5, .int (nI (i))), (6, .int (nI (e))), (7, .int (nI (u))), (8, .int (nI (v))), (9, .int (nI (p + 1)))], [])) (h' := (Gc L xs A B U V S (fh d i p) X)) (fun _ _ => rfl) ?_
    exact l_wfill hlo hi hv q (p + 1) _ (fh_dk hd _ _) (by omega) w0
theorem l_wput {cm sm fr lo L : Nat} {xs : Nat → Int32} {A B : gT} {U V : gU} {S : gS} {X : mj_H} (hlo : 132 ≤ lo) {i o n e u v : Nat} {w : Int64} (hi : i < 2 ^ 20) {r : mj_O × mj_H}  (ho : o < 2 ^ 14) (hn8 : n ≤ 8) : ∀ (q k : Nat) (d : Nat → Nat), dk d → k + q = n → eR mm_P cm sm (fr + 7) lo 98 (165, [(0, .ref 3), (1, .int (nI (o))), (2, .int (nI (n))), (3, .long (w)), (5, .int (nI (i))), (6, .int (nI (e))), (7, .int (nI (u))), (8, .int (nI (v))), (9, .int (nI (n)))], []) (Gc L xs A B U V S (wb i o (fun k => wo w / 256 ^ k) d k q) X) r → eR mm_P cm sm (fr + 7) lo 98 (132, [(0, .ref 3), (1, .int (nI (o))), (2, .int (nI (n))), (3, .long (w)), (5, .int (nI (i))), (6, .int (nI (e))), (7, .int (nI (u))), (8, .int (nI (v))), (9, .int (nI (k)))], []) (Gc L xs A B U V S d X) r
  | 0, k, d, hd, hg, w0 => by
    refine eR.step 2 (F' := (135, [(0, .ref 3), (1, .int (nI (o))), (2, .int (nI (n))), (3, .long (w)), (5, .int (nI (i))), (6, .int (nI (e))), (7, .int (nI (u))), (8, .int (nI (v))), (9, .int (nI (k)))], [.int (nI (n)), .int (nI (k))])) (h' := (Gc L xs A B U V S d X)) (fun _ _ => rfl) ?_
    refine eR.icmp rfl true ((nc_ge (by omega) (by omega)).trans (decide_eq_true (by omega))) ?_
    have e0 : k = n := by omega
    subst e0
    exact w0
  | q + 1, k, d, hd, hg, w0 => by
    refine eR.step 2 (F' := (135, [(0, .ref 3), (1, .int (nI (o))), (2, .int (nI (n))), (3, .long (w)), (5, .int (nI (i))), (6, .int (nI (e))), (7, .int (nI (u))), (8, .int (nI (v))), (9, .int (nI (k)))], [.int (nI (n)), .int (nI (k))])) (h' := (Gc L xs A B U V S d X)) (fun _ _ => rfl) ?_
    refine eR.icmp rfl false ((nc_ge (by omega) (by omega)).trans (decide_eq_false (by omega))) ?_
    refine eR.step 5 (F' := (147, [(0, .ref 3), (1, .int (nI (o))), (2, .int (nI (n))), (3, .long (w)), (5, .int (nI (i))), (6, .int (nI (e))), (7, .int (nI (u))), (8, .int (nI (v))), (9, .int (nI (k)))], [.int (nI (k)), .int (nI (o)), .int (nI (i)), .ref 8])) (h' := (Gc L xs A B U V S d X)) (fun _ _ => rfl) ?_
    refine eR.nadd rfl ?_
    refine eR.step 3 (F' := (153, [(0, .ref 3), (1, .int (nI (o))), (2, .int (nI (n))), (3, .long (w)), (5, .int (nI (i))), (6, .int (nI (e))), (7, .int (nI (u))), (8, .int (nI (v))), (9, .int (nI (k)))], [.int (nI (k)), .int (nI 8), .long (w), .int (nI (o + k)), .int (nI (i)), .ref 8])) (h' := (Gc L xs A B U V S d X)) (fun _ _ => rfl) ?_
    refine eR.nmul rfl ?_
    refine eR.step 2 (F' := (156, [(0, .ref 3), (1, .int (nI (o))), (2, .int (nI (n))), (3, .long (w)), (5, .int (nI (i))), (6, .int (nI (e))), (7, .int (nI (u))), (8, .int (nI (v))), (9, .int (nI (k)))], [.int (((w.toUInt64 >>> ((nI (8 * k)).toInt64.toUInt64 &&& Int64.toUInt64 63)).toInt64).toInt32), .int (nI (o + k)), .int (nI (i)), .ref 8])) (h' := (Gc L xs A B U V S d X)) (fun _ _ => rfl) ?_
    rw [wo_shr w k (by omega), nL_l2i]
    refine eR.call (k' := 99) (as := [.ref 8, .int (nI (i)), .int (nI (o + k)), .int (nI (wo w / 256 ^ k))]) (rest := []) (v := none) (h1 := (Gc L xs A B U V S (py d i (o + k) (wo w / 256 ^ k)) X)) rfl rfl rfl rfl (eg (Nat.le_of_ble_eq_true rfl) (show 24 ≤ lo by omega) (Nat.le_of_ble_eq_true rfl)) (c_putByte (show 66 ≤ lo - 24 by omega) hd hi (by omega)) ?_
    refine eR.step 1 (F' := (162, [(0, .ref 3), (1, .int (nI (o))), (2, .int (nI (n))), (3, .long (w)), (5, .int (nI (i))), (6, .int (nI (e))), (7, .int (nI (u))), (8, .int (nI (v))), (9, .int (nI (k) + 1))], [])) (h' := (Gc L xs A B U V S (py d i (o + k) (wo w / 256 ^ k)) X)) (fun _ _ => rfl) ?_
    rw [show nI (k) + 1 = nI (k + 1) from nI_add (k) 1]
    refine eR.step 1 (F' := (132, [(0, .ref 3), (1, .int (nI (o))), (2, .int (nI (n))), (3, .long (w)), (5, .int (nI (i))), (6, .int (nI (e))), (7, .int (nI (u))), (8, .int (nI (v))), (9, .int (nI (k + 1)))], [])) (h' := (Gc L xs A B U V S (py d i (o + k) (wo w / 256 ^ k)) X)) (fun _ _ => rfl) ?_
    exact l_wput hlo hi ho hn8 q (k + 1) _ (py_dk hd _ _ _) (by omega) w0
theorem fn_dk (i n : Nat) : ∀ (d : Nat → Nat) (w : Nat), dk d → dk (fn i d w n) := by
  induction n with
  | zero => intro d w h; exact h
  | succ n ih => intro d w h; rw [fn]; exact ih _ _ (fh_dk h _ _)
theorem wb_dk (i o : Nat) (b : Nat → Nat) (n : Nat) : ∀ (d : Nat → Nat) (k : Nat), dk d → dk (wb i o b d k n) := by
  induction n with
  | zero => intro d k h; exact h
  | succ n ih => intro d k h; rw [wb]; exact ih _ _ (py_dk h _ _ _)
theorem c_write {cm sm fr lo L : Nat} {xs : Nat → Int32} {A B : gT} {U V : gU} {S : gS} {d : Nat → Nat} {X : mj_H} (hlo : 132 ≤ lo) {o n : Nat} {w : Int64} (h3 : 1 ≤ n) (h4 : n ≤ 8) (h5 : o + n ≤ 1216) (hd : dk d) (ht : ∀ k, A.1 k < 65536) (hl : A.2 ≤ 40) (hn : ∀ k, U.2.2.2 k < 128) (h0 : d 11 ≠ 0) (h1 : (fw d A.1 A.2 U).2.2.1 ≠ 0) (h2 : d (32 + (16 * (fw d A.1 A.2 U).2.2.1)) ≠ 2) (h6 : ¬ cf d 3 9 55 < bw d (fw d A.1 A.2 U).2.2.1 (o / 32) ((o + n - 1) / 32)) : eE mm_P cm sm (fr + 8) lo 98 [.ref 3, .int (nI (o)), .int (nI (n)), .long (w)] (Gc L xs A B U V S d X) (.inl (some (.int (nI ((ss (wb (fw d A.1 A.2 U).2.2.1 o (fun k => wo w / 256 ^ k) (fn (fw d A.1 A.2 U).2.2.1 d (o / 32) (((o + n - 1) / 32) + 1 - (o / 32))) 0 n) (fw d A.1 A.2 U).2.2.1 (max ((wb (fw d A.1 A.2 U).2.2.1 o (fun k => wo w / 256 ^ k) (fn (fw d A.1 A.2 U).2.2.1 d (o / 32) (((o + n - 1) / 32) + 1 - (o / 32))) 0 n) (32 + (16 * (fw d A.1 A.2 U).2.2.1) + 2) + (256 * ((wb (fw d A.1 A.2 U).2.2.1 o (fun k => wo w / 256 ^ k) (fn (fw d A.1 A.2 U).2.2.1 d (o / 32) (((o + n - 1) / 32) + 1 - (o / 32))) 0 n) (32 + (16 * (fw d A.1 A.2 U).2.2.1) + 2 + 1)))) (o + n))) (32 + (16 * (fw d A.1 A.2 U).2.2.1) + 2) + (256 * ((ss (wb (fw d A.1 A.2 U).2.2.1 o (fun k => wo w / 256 ^ k) (fn (fw d A.1 A.2 U).2.2.1 d (o / 32) (((o + n - 1) / 32) + 1 - (o / 32))) 0 n) (fw d A.1 A.2 U).2.2.1 (max ((wb (fw d A.1 A.2 U).2.2.1 o (fun k => wo w / 256 ^ k) (fn (fw d A.1 A.2 U).2.2.1 d (o / 32) (((o + n - 1) / 32) + 1 - (o / 32))) 0 n) (32 + (16 * (fw d A.1 A.2 U).2.2.1) + 2) + (256 * ((wb (fw d A.1 A.2 U).2.2.1 o (fun k => wo w / 256 ^ k) (fn (fw d A.1 A.2 U).2.2.1 d (o / 32) (((o + n - 1) / 32) + 1 - (o / 32))) 0 n) (32 + (16 * (fw d A.1 A.2 U).2.2.1) + 2 + 1)))) (o + n))) (32 + (16 * (fw d A.1 A.2 U).2.2.1) + 2 + 1))))))), (Gc L xs (A.1, 0) B (fw d A.1 A.2 U) V S (ss (wb (fw d A.1 A.2 U).2.2.1 o (fun k => wo w / 256 ^ k) (fn (fw d A.1 A.2 U).2.2.1 d (o / 32) (((o + n - 1) / 32) + 1 - (o / 32))) 0 n) (fw d A.1 A.2 U).2.2.1 (max ((wb (fw d A.1 A.2 U).2.2.1 o (fun k => wo w / 256 ^ k) (fn (fw d A.1 A.2 U).2.2.1 d (o / 32) (((o + n - 1) / 32) + 1 - (o / 32))) 0 n) (32 + (16 * (fw d A.1 A.2 U).2.2.1) + 2) + (256 * ((wb (fw d A.1 A.2 U).2.2.1 o (fun k => wo w / 256 ^ k) (fn (fw d A.1 A.2 U).2.2.1 d (o / 32) (((o + n - 1) / 32) + 1 - (o / 32))) 0 n) (32 + (16 * (fw d A.1 A.2 U).2.2.1) + 2 + 1)))) (o + n))) X)) := by
  refine eE.of ?_
  refine eR.step 1 (F' := (1, [(0, .ref 3), (1, .int (nI (o))), (2, .int (nI (n))), (3, .long (w))], [.ref 3])) (h' := (Gc L xs A B U V S d X)) (fun _ _ => rfl) ?_
  have hk := fw_pk (t := A.1) (l := A.2) hd hn
  have hp : (fw d A.1 A.2 U).1 < 2 ^ 20 := Nat.lt_trans hk.1 (by decide)
  have hi : (fw d A.1 A.2 U).2.2.1 < 2 ^ 20 := Nat.lt_trans hk.2.2.1 (by decide)
  refine eR.call (k' := 64) (as := [.ref 3]) (rest := []) (v := none) (h1 := (Gc L xs (A.1, 0) B (fw d A.1 A.2 U) V S d X)) rfl rfl rfl rfl (eg (Nat.le_of_ble_eq_true rfl) (show 20 ≤ lo by omega) (Nat.le_of_ble_eq_true rfl)) (c_takePath_15 (show 112 ≤ lo - 20 by omega) hd ht hl hn) ?_
  refine eR.step 3 (F' := (9, [(0, .ref 3), (1, .int (nI (o))), (2, .int (nI (n))), (3, .long (w))], [.ref 19, .ref 3])) (h' := (Gc L xs (A.1, 0) B (fw d A.1 A.2 U) V S d X)) (fun _ _ => rfl) ?_
  refine eR.call (k' := 84) (as := [.ref 3, .ref 19]) (rest := []) (v := some (.int (nI ((fw d A.1 A.2 U).2.2.1)))) (h1 := (Gc L xs (A.1, 0) B (fw d A.1 A.2 U) V S d X)) rfl rfl rfl rfl (eg (Nat.le_of_ble_eq_true rfl) (show 22 ≤ lo by omega) (Nat.le_of_ble_eq_true rfl)) (c_file_19 (U := (fw d A.1 A.2 U)) (show 62 ≤ lo - 22 by omega) hd h0 hi h1 h2) ?_
  refine eR.step 3 (F' := (16, [(0, .ref 3), (1, .int (nI (o))), (2, .int (nI (n))), (3, .long (w)), (5, .int (nI ((fw d A.1 A.2 U).2.2.1)))], [.int (nI 1), .int (nI (n))])) (h' := (Gc L xs (A.1, 0) B (fw d A.1 A.2 U) V S d X)) (fun _ _ => rfl) ?_
  refine eR.icmp rfl false ((nc_lt (by omega) (by omega)).trans (decide_eq_false (by omega))) ?_
  refine eR.step 2 (F' := (22, [(0, .ref 3), (1, .int (nI (o))), (2, .int (nI (n))), (3, .long (w)), (5, .int (nI ((fw d A.1 A.2 U).2.2.1)))], [.int (nI 8), .int (nI (n))])) (h' := (Gc L xs (A.1, 0) B (fw d A.1 A.2 U) V S d X)) (fun _ _ => rfl) ?_
  refine eR.icmp rfl false ((nc_gt (by omega) (by omega)).trans (decide_eq_false (by omega))) ?_
  refine eR.step 1 (F' := (26, [(0, .ref 3), (1, .int (nI (o))), (2, .int (nI (n))), (3, .long (w)), (5, .int (nI ((fw d A.1 A.2 U).2.2.1)))], [.int (nI (o))])) (h' := (Gc L xs (A.1, 0) B (fw d A.1 A.2 U) V S d X)) (fun _ _ => rfl) ?_
  refine eR.ifc rfl false ((nc_lt (b := 0) (by omega) (by decide)).trans (decide_eq_false (by omega))) ?_
  refine eR.step 3 (F' := (34, [(0, .ref 3), (1, .int (nI (o))), (2, .int (nI (n))), (3, .long (w)), (5, .int (nI ((fw d A.1 A.2 U).2.2.1)))], [.int (nI (n)), .int (nI 1216), .int (nI (o))])) (h' := (Gc L xs (A.1, 0) B (fw d A.1 A.2 U) V S d X)) (fun _ _ => rfl) ?_
  refine eR.nsub rfl (by omega) ?_
  refine eR.icmp rfl true ((nc_le (by omega) (by omega)).trans (decide_eq_true (by omega))) ?_
  refine eR.step 2 (F' := (50, [(0, .ref 3), (1, .int (nI (o))), (2, .int (nI (n))), (3, .long (w)), (5, .int (nI ((fw d A.1 A.2 U).2.2.1)))], [.int (nI (n)), .int (nI (o))])) (h' := (Gc L xs (A.1, 0) B (fw d A.1 A.2 U) V S d X)) (fun _ _ => rfl) ?_
  refine eR.nadd rfl ?_
  refine eR.step 3 (F' := (56, [(0, .ref 3), (1, .int (nI (o))), (2, .int (nI (n))), (3, .long (w)), (5, .int (nI ((fw d A.1 A.2 U).2.2.1))), (6, .int (nI (o + n)))], [.int (nI 32), .int (nI (o))])) (h' := (Gc L xs (A.1, 0) B (fw d A.1 A.2 U) V S d X)) (fun _ _ => rfl) ?_
  refine eR.ndiv rfl (by omega) (by decide) (by decide) ?_
  refine eR.step 3 (F' := (62, [(0, .ref 3), (1, .int (nI (o))), (2, .int (nI (n))), (3, .long (w)), (5, .int (nI ((fw d A.1 A.2 U).2.2.1))), (6, .int (nI (o + n))), (7, .int (nI (o / 32)))], [.int (nI 1), .int (nI (o + n))])) (h' := (Gc L xs (A.1, 0) B (fw d A.1 A.2 U) V S d X)) (fun _ _ => rfl) ?_
  refine eR.nsub rfl (by omega) ?_
  refine eR.step 1 (F' := (65, [(0, .ref 3), (1, .int (nI (o))), (2, .int (nI (n))), (3, .long (w)), (5, .int (nI ((fw d A.1 A.2 U).2.2.1))), (6, .int (nI (o + n))), (7, .int (nI (o / 32)))], [.int (nI 32), .int (nI ((o + n) - 1))])) (h' := (Gc L xs (A.1, 0) B (fw d A.1 A.2 U) V S d X)) (fun _ _ => rfl) ?_
  refine eR.ndiv rfl (by omega) (by decide) (by decide) ?_
  refine eR.step 6 (F' := (78, [(0, .ref 3), (1, .int (nI (o))), (2, .int (nI (n))), (3, .long (w)), (5, .int (nI ((fw d A.1 A.2 U).2.2.1))), (6, .int (nI (o + n))), (7, .int (nI (o / 32))), (8, .int (nI (((o + n) - 1) / 32)))], [.int (nI (((o + n) - 1) / 32)), .int (nI (o / 32)), .int (nI ((fw d A.1 A.2 U).2.2.1)), .ref 8])) (h' := (Gc L xs (A.1, 0) B (fw d A.1 A.2 U) V S d X)) (fun _ _ => rfl) ?_
  refine eR.call (k' := 78) (as := [.ref 8, .int (nI ((fw d A.1 A.2 U).2.2.1)), .int (nI (o / 32)), .int (nI (((o + n) - 1) / 32))]) (rest := []) (v := some (.int (nI (bw d (fw d A.1 A.2 U).2.2.1 (o / 32) ((o + n - 1) / 32))))) (h1 := (Gc L xs (A.1, 0) B (fw d A.1 A.2 U) V S d X)) rfl rfl rfl rfl (eg (Nat.le_of_ble_eq_true rfl) (show 25 ≤ lo by omega) (Nat.le_of_ble_eq_true rfl)) (c_wanted (show 66 ≤ lo - 25 by omega) hd hi (by omega) (by omega)) ?_
  refine eR.step 2 (F' := (85, [(0, .ref 3), (1, .int (nI (o))), (2, .int (nI (n))), (3, .long (w)), (5, .int (nI ((fw d A.1 A.2 U).2.2.1))), (6, .int (nI (o + n))), (7, .int (nI (o / 32))), (8, .int (nI (((o + n) - 1) / 32)))], [.ref 7, .int (nI (bw d (fw d A.1 A.2 U).2.2.1 (o / 32) ((o + n - 1) / 32)))])) (h' := (Gc L xs (A.1, 0) B (fw d A.1 A.2 U) V S d X)) (fun _ _ => rfl) ?_
  have h9 := cf_le d 3 55 9
  have hbw : bw d (fw d A.1 A.2 U).2.2.1 (o / 32) ((o + n - 1) / 32) < 2 ^ 30 := bw_lt d _ (by omega)
  refine eR.call (k' := 62) (as := [.ref 7]) (rest := [.int (nI (bw d (fw d A.1 A.2 U).2.2.1 (o / 32) ((o + n - 1) / 32)))]) (v := some (.int (nI (cf d 3 9 55)))) (h1 := (Gc L xs (A.1, 0) B (fw d A.1 A.2 U) V S d X)) rfl rfl rfl rfl (eg (Nat.le_of_ble_eq_true rfl) (show 22 ≤ lo by omega) (Nat.le_of_ble_eq_true rfl)) (c_left_7 (show 23 ≤ lo - 22 by omega) hd) ?_
  refine eR.icmp rfl true ((nc_le (by omega) (by omega)).trans (decide_eq_true (by omega))) ?_
  refine eR.step 2 (F' := (105, [(0, .ref 3), (1, .int (nI (o))), (2, .int (nI (n))), (3, .long (w)), (5, .int (nI ((fw d A.1 A.2 U).2.2.1))), (6, .int (nI (o + n))), (7, .int (nI (o / 32))), (8, .int (nI (((o + n) - 1) / 32))), (9, .int (nI (o / 32)))], [])) (h' := (Gc L xs (A.1, 0) B (fw d A.1 A.2 U) V S d X)) (fun _ _ => rfl) ?_
  have k1 := fn_dk (fw d A.1 A.2 U).2.2.1 (((o + n - 1) / 32) + 1 - (o / 32)) _ (o / 32) hd
  have k2 := wb_dk (fw d A.1 A.2 U).2.2.1 o (fun k => wo w / 256 ^ k) n _ 0 k1
  refine l_wfill (U := (fw d A.1 A.2 U)) (A := (A.1, 0)) (show 132 ≤ lo by omega) hi (by omega) (((o + n - 1) / 32) + 1 - (o / 32)) (o / 32) d hd (by omega) ?_
  refine eR.step 2 (F' := (132, [(0, .ref 3), (1, .int (nI (o))), (2, .int (nI (n))), (3, .long (w)), (5, .int (nI ((fw d A.1 A.2 U).2.2.1))), (6, .int (nI (o + n))), (7, .int (nI (o / 32))), (8, .int (nI (((o + n) - 1) / 32))), (9, .int (nI 0))], [])) (h' := (Gc L xs (A.1, 0) B (fw d A.1 A.2 U) V S (fn (fw d A.1 A.2 U).2.2.1 d (o / 32) (((o + n - 1) / 32) + 1 - (o / 32))) X)) (fun _ _ => rfl) ?_
  refine l_wput (U := (fw d A.1 A.2 U)) (A := (A.1, 0)) (show 132 ≤ lo by omega) hi (by omega) h4 n 0 _ k1 (by omega) ?_
  refine eR.step 6 (F' := (177, [(0, .ref 3), (1, .int (nI (o))), (2, .int (nI (n))), (3, .long (w)), (5, .int (nI ((fw d A.1 A.2 U).2.2.1))), (6, .int (nI (o + n))), (7, .int (nI (o / 32))), (8, .int (nI (((o + n) - 1) / 32))), (9, .int (nI (n)))], [.int (nI ((fw d A.1 A.2 U).2.2.1)), .ref 8, .int (nI ((fw d A.1 A.2 U).2.2.1)), .ref 8])) (h' := (Gc L xs (A.1, 0) B (fw d A.1 A.2 U) V S (wb (fw d A.1 A.2 U).2.2.1 o (fun k => wo w / 256 ^ k) (fn (fw d A.1 A.2 U).2.2.1 d (o / 32) (((o + n - 1) / 32) + 1 - (o / 32))) 0 n) X)) (fun _ _ => rfl) ?_
  have h7 := k2.1 (32 + (16 * (fw d A.1 A.2 U).2.2.1) + 2)
  have h8 := k2.1 (32 + (16 * (fw d A.1 A.2 U).2.2.1) + 2 + 1)
  refine eR.call (k' := 51) (as := [.ref 8, .int (nI ((fw d A.1 A.2 U).2.2.1))]) (rest := [.int (nI ((fw d A.1 A.2 U).2.2.1)), .ref 8]) (v := some (.int (nI ((wb (fw d A.1 A.2 U).2.2.1 o (fun k => wo w / 256 ^ k) (fn (fw d A.1 A.2 U).2.2.1 d (o / 32) (((o + n - 1) / 32) + 1 - (o / 32))) 0 n) (32 + (16 * (fw d A.1 A.2 U).2.2.1) + 2) + (256 * ((wb (fw d A.1 A.2 U).2.2.1 o (fun k => wo w / 256 ^ k) (fn (fw d A.1 A.2 U).2.2.1 d (o / 32) (((o + n - 1) / 32) + 1 - (o / 32))) 0 n) (32 + (16 * (fw d A.1 A.2 U).2.2.1) + 2 + 1))))))) (h1 := (Gc L xs (A.1, 0) B (fw d A.1 A.2 U) V S (wb (fw d A.1 A.2 U).2.2.1 o (fun k => wo w / 256 ^ k) (fn (fw d A.1 A.2 U).2.2.1 d (o / 32) (((o + n - 1) / 32) + 1 - (o / 32))) 0 n) X)) rfl rfl rfl rfl (eg (Nat.le_of_ble_eq_true rfl) (show 22 ≤ lo by omega) (Nat.le_of_ble_eq_true rfl)) (c_sizeI (show 21 ≤ lo - 22 by omega) k2 hi) ?_
  refine eR.step 1 (F' := (182, [(0, .ref 3), (1, .int (nI (o))), (2, .int (nI (n))), (3, .long (w)), (5, .int (nI ((fw d A.1 A.2 U).2.2.1))), (6, .int (nI (o + n))), (7, .int (nI (o / 32))), (8, .int (nI (((o + n) - 1) / 32))), (9, .int (nI (n)))], [.int (nI (o + n)), .int (nI ((wb (fw d A.1 A.2 U).2.2.1 o (fun k => wo w / 256 ^ k) (fn (fw d A.1 A.2 U).2.2.1 d (o / 32) (((o + n - 1) / 32) + 1 - (o / 32))) 0 n) (32 + (16 * (fw d A.1 A.2 U).2.2.1) + 2) + (256 * ((wb (fw d A.1 A.2 U).2.2.1 o (fun k => wo w / 256 ^ k) (fn (fw d A.1 A.2 U).2.2.1 d (o / 32) (((o + n - 1) / 32) + 1 - (o / 32))) 0 n) (32 + (16 * (fw d A.1 A.2 U).2.2.1) + 2 + 1))))), .int (nI ((fw d A.1 A.2 U).2.2.1)), .ref 8])) (h' := (Gc L xs (A.1, 0) B (fw d A.1 A.2 U) V S (wb (fw d A.1 A.2 U).2.2.1 o (fun k => wo w / 256 ^ k) (fn (fw d A.1 A.2 U).2.2.1 d (o / 32) (((o + n - 1) / 32) + 1 - (o / 32))) 0 n) X)) (fun _ _ => rfl) ?_
  refine eR.call (k' := 165) (as := [.int (nI ((wb (fw d A.1 A.2 U).2.2.1 o (fun k => wo w / 256 ^ k) (fn (fw d A.1 A.2 U).2.2.1 d (o / 32) (((o + n - 1) / 32) + 1 - (o / 32))) 0 n) (32 + (16 * (fw d A.1 A.2 U).2.2.1) + 2) + (256 * ((wb (fw d A.1 A.2 U).2.2.1 o (fun k => wo w / 256 ^ k) (fn (fw d A.1 A.2 U).2.2.1 d (o / 32) (((o + n - 1) / 32) + 1 - (o / 32))) 0 n) (32 + (16 * (fw d A.1 A.2 U).2.2.1) + 2 + 1))))), .int (nI (o + n))]) (rest := [.int (nI ((fw d A.1 A.2 U).2.2.1)), .ref 8]) (v := some (.int (nI (max ((wb (fw d A.1 A.2 U).2.2.1 o (fun k => wo w / 256 ^ k) (fn (fw d A.1 A.2 U).2.2.1 d (o / 32) (((o + n - 1) / 32) + 1 - (o / 32))) 0 n) (32 + (16 * (fw d A.1 A.2 U).2.2.1) + 2) + (256 * ((wb (fw d A.1 A.2 U).2.2.1 o (fun k => wo w / 256 ^ k) (fn (fw d A.1 A.2 U).2.2.1 d (o / 32) (((o + n - 1) / 32) + 1 - (o / 32))) 0 n) (32 + (16 * (fw d A.1 A.2 U).2.2.1) + 2 + 1)))) (o + n))))) (h1 := (Gc L xs (A.1, 0) B (fw d A.1 A.2 U) V S (wb (fw d A.1 A.2 U).2.2.1 o (fun k => wo w / 256 ^ k) (fn (fw d A.1 A.2 U).2.2.1 d (o / 32) (((o + n - 1) / 32) + 1 - (o / 32))) 0 n) X)) rfl rfl rfl rfl (eg (Nat.le_of_ble_eq_true rfl) (show 21 ≤ lo by omega) (Nat.le_of_ble_eq_true rfl)) (c_max (by omega) (by omega)) ?_
  refine eR.call (k' := 23) (as := [.ref 8, .int (nI ((fw d A.1 A.2 U).2.2.1)), .int (nI (max ((wb (fw d A.1 A.2 U).2.2.1 o (fun k => wo w / 256 ^ k) (fn (fw d A.1 A.2 U).2.2.1 d (o / 32) (((o + n - 1) / 32) + 1 - (o / 32))) 0 n) (32 + (16 * (fw d A.1 A.2 U).2.2.1) + 2) + (256 * ((wb (fw d A.1 A.2 U).2.2.1 o (fun k => wo w / 256 ^ k) (fn (fw d A.1 A.2 U).2.2.1 d (o / 32) (((o + n - 1) / 32) + 1 - (o / 32))) 0 n) (32 + (16 * (fw d A.1 A.2 U).2.2.1) + 2 + 1)))) (o + n)))]) (rest := []) (v := none) (h1 := (Gc L xs (A.1, 0) B (fw d A.1 A.2 U) V S (ss (wb (fw d A.1 A.2 U).2.2.1 o (fun k => wo w / 256 ^ k) (fn (fw d A.1 A.2 U).2.2.1 d (o / 32) (((o + n - 1) / 32) + 1 - (o / 32))) 0 n) (fw d A.1 A.2 U).2.2.1 (max ((wb (fw d A.1 A.2 U).2.2.1 o (fun k => wo w / 256 ^ k) (fn (fw d A.1 A.2 U).2.2.1 d (o / 32) (((o + n - 1) / 32) + 1 - (o / 32))) 0 n) (32 + (16 * (fw d A.1 A.2 U).2.2.1) + 2) + (256 * ((wb (fw d A.1 A.2 U).2.2.1 o (fun k => wo w / 256 ^ k) (fn (fw d A.1 A.2 U).2.2.1 d (o / 32) (((o + n - 1) / 32) + 1 - (o / 32))) 0 n) (32 + (16 * (fw d A.1 A.2 U).2.2.1) + 2 + 1)))) (o + n))) X)) rfl rfl rfl rfl (eg (Nat.le_of_ble_eq_true rfl) (show 23 ≤ lo by omega) (Nat.le_of_ble_eq_true rfl)) (c_setSize (show 22 ≤ lo - 23 by omega) hi (by omega)) ?_
  refine eR.step 3 (F' := (194, [(0, .ref 3), (1, .int (nI (o))), (2, .int (nI (n))), (3, .long (w)), (5, .int (nI ((fw d A.1 A.2 U).2.2.1))), (6, .int (nI (o + n))), (7, .int (nI (o / 32))), (8, .int (nI (((o + n) - 1) / 32))), (9, .int (nI (n)))], [.int (nI ((fw d A.1 A.2 U).2.2.1)), .ref 8])) (h' := (Gc L xs (A.1, 0) B (fw d A.1 A.2 U) V S (ss (wb (fw d A.1 A.2 U).2.2.1 o (fun k => wo w / 256 ^ k) (fn (fw d A.1 A.2 U).2.2.1 d (o / 32) (((o + n - 1) / 32) + 1 - (o / 32))) 0 n) (fw d A.1 A.2 U).2.2.1 (max ((wb (fw d A.1 A.2 U).2.2.1 o (fun k => wo w / 256 ^ k) (fn (fw d A.1 A.2 U).2.2.1 d (o / 32) (((o + n - 1) / 32) + 1 - (o / 32))) 0 n) (32 + (16 * (fw d A.1 A.2 U).2.2.1) + 2) + (256 * ((wb (fw d A.1 A.2 U).2.2.1 o (fun k => wo w / 256 ^ k) (fn (fw d A.1 A.2 U).2.2.1 d (o / 32) (((o + n - 1) / 32) + 1 - (o / 32))) 0 n) (32 + (16 * (fw d A.1 A.2 U).2.2.1) + 2 + 1)))) (o + n))) X)) (fun _ _ => rfl) ?_
  refine eR.call (k' := 51) (as := [.ref 8, .int (nI ((fw d A.1 A.2 U).2.2.1))]) (rest := []) (v := some (.int (nI ((ss (wb (fw d A.1 A.2 U).2.2.1 o (fun k => wo w / 256 ^ k) (fn (fw d A.1 A.2 U).2.2.1 d (o / 32) (((o + n - 1) / 32) + 1 - (o / 32))) 0 n) (fw d A.1 A.2 U).2.2.1 (max ((wb (fw d A.1 A.2 U).2.2.1 o (fun k => wo w / 256 ^ k) (fn (fw d A.1 A.2 U).2.2.1 d (o / 32) (((o + n - 1) / 32) + 1 - (o / 32))) 0 n) (32 + (16 * (fw d A.1 A.2 U).2.2.1) + 2) + (256 * ((wb (fw d A.1 A.2 U).2.2.1 o (fun k => wo w / 256 ^ k) (fn (fw d A.1 A.2 U).2.2.1 d (o / 32) (((o + n - 1) / 32) + 1 - (o / 32))) 0 n) (32 + (16 * (fw d A.1 A.2 U).2.2.1) + 2 + 1)))) (o + n))) (32 + (16 * (fw d A.1 A.2 U).2.2.1) + 2) + (256 * ((ss (wb (fw d A.1 A.2 U).2.2.1 o (fun k => wo w / 256 ^ k) (fn (fw d A.1 A.2 U).2.2.1 d (o / 32) (((o + n - 1) / 32) + 1 - (o / 32))) 0 n) (fw d A.1 A.2 U).2.2.1 (max ((wb (fw d A.1 A.2 U).2.2.1 o (fun k => wo w / 256 ^ k) (fn (fw d A.1 A.2 U).2.2.1 d (o / 32) (((o + n - 1) / 32) + 1 - (o / 32))) 0 n) (32 + (16 * (fw d A.1 A.2 U).2.2.1) + 2) + (256 * ((wb (fw d A.1 A.2 U).2.2.1 o (fun k => wo w / 256 ^ k) (fn (fw d A.1 A.2 U).2.2.1 d (o / 32) (((o + n - 1) / 32) + 1 - (o / 32))) 0 n) (32 + (16 * (fw d A.1 A.2 U).2.2.1) + 2 + 1)))) (o + n))) (32 + (16 * (fw d A.1 A.2 U).2.2.1) + 2 + 1))))))) (h1 := (Gc L xs (A.1, 0) B (fw d A.1 A.2 U) V S (ss (wb (fw d A.1 A.2 U).2.2.1 o (fun k => wo w / 256 ^ k) (fn (fw d A.1 A.2 U).2.2.1 d (o / 32) (((o + n - 1) / 32) + 1 - (o / 32))) 0 n) (fw d A.1 A.2 U).2.2.1 (max ((wb (fw d A.1 A.2 U).2.2.1 o (fun k => wo w / 256 ^ k) (fn (fw d A.1 A.2 U).2.2.1 d (o / 32) (((o + n - 1) / 32) + 1 - (o / 32))) 0 n) (32 + (16 * (fw d A.1 A.2 U).2.2.1) + 2) + (256 * ((wb (fw d A.1 A.2 U).2.2.1 o (fun k => wo w / 256 ^ k) (fn (fw d A.1 A.2 U).2.2.1 d (o / 32) (((o + n - 1) / 32) + 1 - (o / 32))) 0 n) (32 + (16 * (fw d A.1 A.2 U).2.2.1) + 2 + 1)))) (o + n))) X)) rfl rfl rfl rfl (eg (Nat.le_of_ble_eq_true rfl) (show 22 ≤ lo by omega) (Nat.le_of_ble_eq_true rfl)) (c_sizeI (show 21 ≤ lo - 22 by omega) (ss_dk k2 _ _) hi) ?_
  exact eR.ret rfl rfl rfl

