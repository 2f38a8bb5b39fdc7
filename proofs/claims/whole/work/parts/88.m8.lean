theorem ri_n {b : Bool} {t c : Nat} (h : ¬ t = 0) : ri b t c = t := by
  unfold ri rt
  rw [if_neg h]
  split <;> rfl
theorem mc_ltn {x : Int32} (hx : x < 0) {n : Nat} (hn : n < 2 ^ 31) : mj_cmp .lt x (nI n) = true := by
  have h1 := Int32.lt_iff_toInt_lt.mp hx
  have h3 : (0 : Int32).toInt = 0 := by decide
  refine decide_eq_true (Int32.lt_iff_toInt_lt.mpr ?_)
  rw [nI_toInt hn]; omega
theorem tb_11 (e : Nat → Nat) (a n : Nat) (h : a + n / 8 < 11) : tb (dp e 11 0) a n = dp (tb e a n) 11 0 := by
  funext x
  unfold tb
  rw [dp_ne e _ _ _ (by omega)]
  by_cases y : x = 11
  · rw [y, dp_ne _ _ _ _ (by omega), dp_at _ _ _ (by omega), dp_at _ _ _ (by omega)]
  · rw [dp_ne (dp e (a + n / 8) _) _ _ _ y]
    unfold dp
    split
    · rfl
    · rw [if_neg (fun z => y z.1)]
theorem rm_not {e : Nat → Nat} {a n : Nat} : rm e a n (!bt e a n) = tb e a n := by
  unfold rm
  rw [if_neg (by cases bt e a n <;> simp)]
theorem bt_11 (e : Nat → Nat) (a n : Nat) (h : a + n / 8 < 11) : bt (dp e 11 0) a n = bt e a n := bt_ext _ _ _ _ (dp_ne _ _ _ _ (by omega))
theorem dp_11 (e : Nat → Nat) (a v : Nat) (h : a ≠ 11) : dp (dp e 11 0) a v = dp (dp e a v) 11 0 := by
  funext x
  by_cases y : x = 11
  · rw [y, dp_ne _ _ _ _ (by omega), dp_at _ _ _ (by omega), dp_at _ _ _ (by omega)]
  · rw [dp_ne (dp e a v) _ _ _ y]
    by_cases z : x = a ∧ a < 2048
    · rw [z.1, dp_at _ _ _ z.2, dp_at _ _ _ z.2]
    · unfold dp
      rw [if_neg z, if_neg (fun w => y w.1), if_neg z]
theorem m_byteAt0 {cm sm fr lo : Nat} {C : gC} {e : Nat → Nat} {P Q : gT} {m : Nat} {N : Nat → Nat} {R : gS} {t : Nat} {Z : mj_H} {n : Nat} (hn : n < 2048) : eE mm_P cm sm (fr + 1) lo 162 [.ref 23, .int (nI (n))] (Wd C e P Q m N R t Z) (.inl (some (.int (nI (e n)))), (Wd C e P Q m N R 0 Z)) := by
  refine eE.of ?_
  refine eR.step 2 (F' := (2, [(0, .ref 23), (1, .int (nI (n)))], [.int (nI 0), .ref 23])) (h' := (Wd C e P Q m N R t Z)) (fun _ _ => rfl) ?_
  refine eR.sim rfl (F := (5, [(0, .ref 23), (1, .int (nI (n)))], [])) (h' := (Wd C e P Q m N R 0 Z)) (by rfl) ?_
  refine eR.step 1 (F' := (6, [(0, .ref 23), (1, .int (nI (n)))], [.int (nI (n))])) (h' := (Wd C e P Q m N R 0 Z)) (fun _ _ => rfl) ?_
  refine eR.ifc rfl false ((nc_lt (b := 0) (by omega) (by decide)).trans (decide_eq_false (by omega))) ?_
  refine eR.step 2 (F' := (13, [(0, .ref 23), (1, .int (nI (n)))], [.int (nI 2048), .int (nI (n))])) (h' := (Wd C e P Q m N R 0 Z)) (fun _ _ => rfl) ?_
  refine eR.icmp rfl true ((nc_lt (by omega) (by omega)).trans (decide_eq_true (by omega))) ?_
  refine eR.step 3 (F' := (25, [(0, .ref 23), (1, .int (nI (n)))], [.int (nI (n)), .ref 24])) (h' := (Wd C e P Q m N R 0 Z)) (fun _ _ => rfl) ?_
  refine eR.ld24 rfl (by omega) ?_
  exact eR.ret rfl rfl rfl
theorem m_byteAt1 {cm sm fr lo : Nat} {C : gC} {e : Nat → Nat} {P Q : gT} {m : Nat} {N : Nat → Nat} {R : gS} {t : Nat} {Z : mj_H} {n : Nat} (hn : n < 2 ^ 31) (h : 2048 ≤ n) : eE mm_P cm sm (fr + 1) lo 162 [.ref 23, .int (nI (n))] (Wd C e P Q m N R t Z) (.inl (some (.int (-1))), (Wd C e P Q m N R 0 Z)) := by
  refine eE.of ?_
  refine eR.step 2 (F' := (2, [(0, .ref 23), (1, .int (nI (n)))], [.int (nI 0), .ref 23])) (h' := (Wd C e P Q m N R t Z)) (fun _ _ => rfl) ?_
  refine eR.sim rfl (F := (5, [(0, .ref 23), (1, .int (nI (n)))], [])) (h' := (Wd C e P Q m N R 0 Z)) (by rfl) ?_
  refine eR.step 1 (F' := (6, [(0, .ref 23), (1, .int (nI (n)))], [.int (nI (n))])) (h' := (Wd C e P Q m N R 0 Z)) (fun _ _ => rfl) ?_
  refine eR.ifc rfl false ((nc_lt (b := 0) (by omega) (by decide)).trans (decide_eq_false (by omega))) ?_
  refine eR.step 2 (F' := (13, [(0, .ref 23), (1, .int (nI (n)))], [.int (nI 2048), .int (nI (n))])) (h' := (Wd C e P Q m N R 0 Z)) (fun _ _ => rfl) ?_
  refine eR.icmp rfl false ((nc_lt (by omega) (by omega)).trans (decide_eq_false (by omega))) ?_
  refine eR.step 2 (F' := (26, [(0, .ref 23), (1, .int (nI (n)))], [.int ((-1 : Int32))])) (h' := (Wd C e P Q m N R 0 Z)) (fun _ _ => rfl) ?_
  exact eR.ret rfl rfl rfl
theorem m_byteAtM {cm sm fr lo : Nat} {C : gC} {e : Nat → Nat} {P Q : gT} {m : Nat} {N : Nat → Nat} {R : gS} {t : Nat} {Z : mj_H} {x : Int32} (hx : x < 0) : eE mm_P cm sm (fr + 1) lo 162 [.ref 23, .int (x)] (Wd C e P Q m N R t Z) (.inl (some (.int (-1))), (Wd C e P Q m N R 0 Z)) := by
  refine eE.of ?_
  refine eR.step 2 (F' := (2, [(0, .ref 23), (1, .int (x))], [.int (nI 0), .ref 23])) (h' := (Wd C e P Q m N R t Z)) (fun _ _ => rfl) ?_
  refine eR.sim rfl (F := (5, [(0, .ref 23), (1, .int (x))], [])) (h' := (Wd C e P Q m N R 0 Z)) (by rfl) ?_
  refine eR.step 1 (F' := (6, [(0, .ref 23), (1, .int (x))], [.int (x)])) (h' := (Wd C e P Q m N R 0 Z)) (fun _ _ => rfl) ?_
  refine eR.ifc rfl true (decide_eq_true hx) ?_
  refine eR.step 2 (F' := (26, [(0, .ref 23), (1, .int (x))], [.int ((-1 : Int32))])) (h' := (Wd C e P Q m N R 0 Z)) (fun _ _ => rfl) ?_
  exact eR.ret rfl rfl rfl
theorem m_count0 {cm sm fr lo : Nat} {C : gC} {e : Nat → Nat} {P Q : gT} {m : Nat} {N : Nat → Nat} {R : gS} {t : Nat} {Z : mj_H} (hlo : 46 ≤ lo) (he : dk e) : eE mm_P cm sm (fr + 3) lo 163 [.ref 23, .int (nI 0)] (Wd C e P Q m N R t Z) (.inl (some (.int (nI (cf e 1 0 16)))), (Wd C e P Q m N R 0 Z)) := by
  refine eE.of ?_
  refine eR.step 2 (F' := (2, [(0, .ref 23), (1, .int (nI 0))], [.int (nI 0), .ref 23])) (h' := (Wd C e P Q m N R t Z)) (fun _ _ => rfl) ?_
  refine eR.sim rfl (F := (5, [(0, .ref 23), (1, .int (nI 0))], [])) (h' := (Wd C e P Q m N R 0 Z)) (by rfl) ?_
  refine eR.step 1 (F' := (6, [(0, .ref 23), (1, .int (nI 0))], [.int (nI 0)])) (h' := (Wd C e P Q m N R 0 Z)) (fun _ _ => rfl) ?_
  refine eR.ifc rfl false rfl ?_
  refine eR.step 3 (F' := (13, [(0, .ref 23), (1, .int (nI 0))], [.int (nI 16), .int (nI 1), .ref 23])) (h' := (Wd C e P Q m N R 0 Z)) (fun _ _ => rfl) ?_
  refine eR.call (k' := 133) (as := [.ref 23, .int (nI 1), .int (nI 16)]) (rest := []) (v := some (.int (nI (cf e 1 0 16)))) (h1 := (Wd C e P Q m N R 0 Z)) rfl rfl rfl rfl (eg (Nat.le_of_ble_eq_true rfl) (show 24 ≤ lo by omega) (Nat.le_of_ble_eq_true rfl)) (m_free (show 22 ≤ lo - 24 by omega) he (by decide) (by decide)) ?_
  refine eR.step 1 (F' := (50, [(0, .ref 23), (1, .int (nI 0))], [.int (nI (cf e 1 0 16))])) (h' := (Wd C e P Q m N R 0 Z)) (fun _ _ => rfl) ?_
  exact eR.ret rfl rfl rfl
theorem m_count1 {cm sm fr lo : Nat} {C : gC} {e : Nat → Nat} {P Q : gT} {m : Nat} {N : Nat → Nat} {R : gS} {t : Nat} {Z : mj_H} (hlo : 46 ≤ lo) (he : dk e) : eE mm_P cm sm (fr + 3) lo 163 [.ref 23, .int (nI 1)] (Wd C e P Q m N R t Z) (.inl (some (.int (nI (cf e 3 0 64)))), (Wd C e P Q m N R 0 Z)) := by
  refine eE.of ?_
  refine eR.step 2 (F' := (2, [(0, .ref 23), (1, .int (nI 1))], [.int (nI 0), .ref 23])) (h' := (Wd C e P Q m N R t Z)) (fun _ _ => rfl) ?_
  refine eR.sim rfl (F := (5, [(0, .ref 23), (1, .int (nI 1))], [])) (h' := (Wd C e P Q m N R 0 Z)) (by rfl) ?_
  refine eR.step 1 (F' := (6, [(0, .ref 23), (1, .int (nI 1))], [.int (nI 1)])) (h' := (Wd C e P Q m N R 0 Z)) (fun _ _ => rfl) ?_
  refine eR.ifc rfl true rfl ?_
  refine eR.step 2 (F' := (21, [(0, .ref 23), (1, .int (nI 1))], [.int (nI 1), .int (nI 1)])) (h' := (Wd C e P Q m N R 0 Z)) (fun _ _ => rfl) ?_
  refine eR.icmp rfl false rfl ?_
  refine eR.step 3 (F' := (28, [(0, .ref 23), (1, .int (nI 1))], [.int (nI 64), .int (nI 3), .ref 23])) (h' := (Wd C e P Q m N R 0 Z)) (fun _ _ => rfl) ?_
  refine eR.call (k' := 133) (as := [.ref 23, .int (nI 3), .int (nI 64)]) (rest := []) (v := some (.int (nI (cf e 3 0 64)))) (h1 := (Wd C e P Q m N R 0 Z)) rfl rfl rfl rfl (eg (Nat.le_of_ble_eq_true rfl) (show 24 ≤ lo by omega) (Nat.le_of_ble_eq_true rfl)) (m_free (show 22 ≤ lo - 24 by omega) he (by decide) (by decide)) ?_
  refine eR.step 1 (F' := (50, [(0, .ref 23), (1, .int (nI 1))], [.int (nI (cf e 3 0 64))])) (h' := (Wd C e P Q m N R 0 Z)) (fun _ _ => rfl) ?_
  exact eR.ret rfl rfl rfl
theorem m_count2 {cm sm fr lo : Nat} {C : gC} {e : Nat → Nat} {P Q : gT} {m : Nat} {N : Nat → Nat} {R : gS} {t : Nat} {Z : mj_H} (hlo : 46 ≤ lo) (he : dk e) : eE mm_P cm sm (fr + 3) lo 163 [.ref 23, .int (nI 2)] (Wd C e P Q m N R t Z) (.inl (some (.int (nI (e 11)))), (Wd C e P Q m N R 0 Z)) := by
  refine eE.of ?_
  refine eR.step 2 (F' := (2, [(0, .ref 23), (1, .int (nI 2))], [.int (nI 0), .ref 23])) (h' := (Wd C e P Q m N R t Z)) (fun _ _ => rfl) ?_
  refine eR.sim rfl (F := (5, [(0, .ref 23), (1, .int (nI 2))], [])) (h' := (Wd C e P Q m N R 0 Z)) (by rfl) ?_
  refine eR.step 1 (F' := (6, [(0, .ref 23), (1, .int (nI 2))], [.int (nI 2)])) (h' := (Wd C e P Q m N R 0 Z)) (fun _ _ => rfl) ?_
  refine eR.ifc rfl true rfl ?_
  refine eR.step 2 (F' := (21, [(0, .ref 23), (1, .int (nI 2))], [.int (nI 1), .int (nI 2)])) (h' := (Wd C e P Q m N R 0 Z)) (fun _ _ => rfl) ?_
  refine eR.icmp rfl true rfl ?_
  refine eR.step 2 (F' := (36, [(0, .ref 23), (1, .int (nI 2))], [.int (nI 2), .int (nI 2)])) (h' := (Wd C e P Q m N R 0 Z)) (fun _ _ => rfl) ?_
  refine eR.icmp rfl false rfl ?_
  refine eR.step 3 (F' := (45, [(0, .ref 23), (1, .int (nI 2))], [.int (nI 11), .ref 24])) (h' := (Wd C e P Q m N R 0 Z)) (fun _ _ => rfl) ?_
  refine eR.ld24 rfl (by omega) ?_
  refine eR.step 1 (F' := (50, [(0, .ref 23), (1, .int (nI 2))], [.int (nI (e (11)))])) (h' := (Wd C e P Q m N R 0 Z)) (fun _ _ => rfl) ?_
  exact eR.ret rfl rfl rfl
theorem m_countD {cm sm fr lo : Nat} {C : gC} {e : Nat → Nat} {P Q : gT} {m : Nat} {N : Nat → Nat} {R : gS} {t : Nat} {Z : mj_H} (hlo : 46 ≤ lo) {x : Int32} (h0 : ¬ x = 0) (h1 : ¬ x = nI 1) (h2 : ¬ x = nI 2) : eE mm_P cm sm (fr + 3) lo 163 [.ref 23, .int (x)] (Wd C e P Q m N R t Z) (.inl (some (.int (-1))), (Wd C e P Q m N R 0 Z)) := by
  refine eE.of ?_
  refine eR.step 2 (F' := (2, [(0, .ref 23), (1, .int (x))], [.int (nI 0), .ref 23])) (h' := (Wd C e P Q m N R t Z)) (fun _ _ => rfl) ?_
  refine eR.sim rfl (F := (5, [(0, .ref 23), (1, .int (x))], [])) (h' := (Wd C e P Q m N R 0 Z)) (by rfl) ?_
  refine eR.step 1 (F' := (6, [(0, .ref 23), (1, .int (x))], [.int (x)])) (h' := (Wd C e P Q m N R 0 Z)) (fun _ _ => rfl) ?_
  refine eR.ifc rfl true (decide_eq_true h0) ?_
  refine eR.step 2 (F' := (21, [(0, .ref 23), (1, .int (x))], [.int (nI 1), .int (x)])) (h' := (Wd C e P Q m N R 0 Z)) (fun _ _ => rfl) ?_
  refine eR.icmp rfl true (decide_eq_true h1) ?_
  refine eR.step 2 (F' := (36, [(0, .ref 23), (1, .int (x))], [.int (nI 2), .int (x)])) (h' := (Wd C e P Q m N R 0 Z)) (fun _ _ => rfl) ?_
  refine eR.icmp rfl true (decide_eq_true h2) ?_
  refine eR.step 1 (F' := (50, [(0, .ref 23), (1, .int (x))], [.int ((-1 : Int32))])) (h' := (Wd C e P Q m N R 0 Z)) (fun _ _ => rfl) ?_
  exact eR.ret rfl rfl rfl
theorem m_spoil0 {cm sm fr lo : Nat} {C : gC} {e : Nat → Nat} {P Q : gT} {m : Nat} {N : Nat → Nat} {R : gS} {t : Nat} {Z : mj_H} (hlo : 41 ≤ lo) (he : dk e) {n : Nat} (h : 1 ≤ n ∧ n < 16) {v : Int32} : eE mm_P cm sm (fr + 3) lo 158 [.ref 23, .int (nI 0), .int (nI (n)), .int (v)] (Wd C e P Q m N R t Z) (.inl (some (.int (nI 1))), (Wd C (dp (tb e 1 n) 11 0) P Q m N R 0 Z)) := by
  refine eE.of ?_
  refine eR.step 2 (F' := (2, [(0, .ref 23), (1, .int (nI 0)), (2, .int (nI (n))), (3, .int (v))], [.int (nI 0), .ref 23])) (h' := (Wd C e P Q m N R t Z)) (fun _ _ => rfl) ?_
  refine eR.sim rfl (F := (5, [(0, .ref 23), (1, .int (nI 0)), (2, .int (nI (n))), (3, .int (v))], [])) (h' := (Wd C e P Q m N R 0 Z)) (by rfl) ?_
  refine eR.step 2 (F' := (7, [(0, .ref 23), (1, .int (nI 0)), (2, .int (nI (n))), (3, .int (v))], [.int (nI 1), .int (nI (n))])) (h' := (Wd C e P Q m N R 0 Z)) (fun _ _ => rfl) ?_
  refine eR.icmp rfl false ((nc_lt (by omega) (by omega)).trans (decide_eq_false (by omega))) ?_
  refine eR.step 2 (F' := (13, [(0, .ref 23), (1, .int (nI 0)), (2, .int (nI (n))), (3, .int (v))], [.int (nI 16), .int (nI (n))])) (h' := (Wd C e P Q m N R 0 Z)) (fun _ _ => rfl) ?_
  refine eR.icmp rfl false ((nc_ge (by omega) (by omega)).trans (decide_eq_false (by omega))) ?_
  refine eR.step 4 (F' := (24, [(0, .ref 23), (1, .int (nI 0)), (2, .int (nI (n))), (3, .int (v)), (4, .int (nI 1))], [.int (nI 0)])) (h' := (Wd C e P Q m N R 0 Z)) (fun _ _ => rfl) ?_
  refine eR.ifc rfl false rfl ?_
  refine eR.step 1 (F' := (29, [(0, .ref 23), (1, .int (nI 0)), (2, .int (nI (n))), (3, .int (v)), (4, .int (nI 1))], [.int (nI 1)])) (h' := (Wd C e P Q m N R 0 Z)) (fun _ _ => rfl) ?_
  refine eR.ifc rfl true rfl ?_
  refine eR.step 4 (F' := (96, [(0, .ref 23), (1, .int (nI 0)), (2, .int (nI (n))), (3, .int (v)), (4, .int (nI 1)), (5, .int (nI 1))], [.int (nI 1)])) (h' := (Wd C e P Q m N R 0 Z)) (fun _ _ => rfl) ?_
  refine eR.ifc rfl true rfl ?_
  refine eR.step 4 (F' := (108, [(0, .ref 23), (1, .int (nI 0)), (2, .int (nI (n))), (3, .int (v)), (4, .int (nI 1)), (5, .int (nI 1))], [.int (nI 0), .int (nI 11), .ref 24])) (h' := (Wd C e P Q m N R 0 Z)) (fun _ _ => rfl) ?_
  refine eR.st24 rfl (by omega) (by decide) ?_
  refine eR.step 2 (F' := (111, [(0, .ref 23), (1, .int (nI 0)), (2, .int (nI (n))), (3, .int (v)), (4, .int (nI 1)), (5, .int (nI 1))], [.int (nI 2), .int (nI 0)])) (h' := (Wd C (dp e (11) (0)) P Q m N R 0 Z)) (fun _ _ => rfl) ?_
  refine eR.icmp rfl true rfl ?_
  refine eR.step 1 (F' := (130, [(0, .ref 23), (1, .int (nI 0)), (2, .int (nI (n))), (3, .int (v)), (4, .int (nI 1)), (5, .int (nI 1))], [.int (nI 0)])) (h' := (Wd C (dp e (11) (0)) P Q m N R 0 Z)) (fun _ _ => rfl) ?_
  refine eR.ifc rfl false rfl ?_
  refine eR.step 9 (F' := (148, [(0, .ref 23), (1, .int (nI 0)), (2, .int (nI (n))), (3, .int (v)), (4, .int (nI 1)), (5, .int (nI 1)), (6, .int (nI 1))], [.int (nI (n)), .int (nI 1), .ref 23, .int (nI (n)), .int (nI 1), .ref 23])) (h' := (Wd C (dp e (11) (0)) P Q m N R 0 Z)) (fun _ _ => rfl) ?_
  refine eR.call (k' := 110) (as := [.ref 23, .int (nI 1), .int (nI (n))]) (rest := [.int (nI (n)), .int (nI 1), .ref 23]) (v := some (.int (nI (bi (bt (dp e 11 0) 1 n))))) (h1 := (Wd C (dp e (11) (0)) P Q m N R 0 Z)) rfl rfl rfl rfl (eg (Nat.le_of_ble_eq_true rfl) (show 22 ≤ lo by omega) (Nat.le_of_ble_eq_true rfl)) (m_is (dp_dk he _ _) (by omega) (by omega)) ?_
  have e1 : rm (dp e 11 0) 1 n (!bt (dp e 11 0) 1 n) = dp (tb e 1 n) 11 0 := by rw [rm_not, tb_11 _ _ _ (by omega)]
  by_cases hb : bt (dp e 11 0) 1 n = true
  · rw [hb] at e1
    refine eR.ifc rfl true (mb_nt hb) ?_
    refine eR.step 1 (F' := (159, [(0, .ref 23), (1, .int (nI 0)), (2, .int (nI (n))), (3, .int (v)), (4, .int (nI 1)), (5, .int (nI 1)), (6, .int (nI 1))], [.int (nI 0), .int (nI (n)), .int (nI 1), .ref 23])) (h' := (Wd C (dp e (11) (0)) P Q m N R 0 Z)) (fun _ _ => rfl) ?_
    refine eR.call (k' := 107) (as := [.ref 23, .int (nI 1), .int (nI (n)), .int (nI 0)]) (rest := []) (v := none) (h1 := (Wd C (rm (dp e 11 0) 1 n false) P Q m N R 0 Z)) rfl rfl rfl rfl (eg (Nat.le_of_ble_eq_true rfl) (show 24 ≤ lo by omega) (Nat.le_of_ble_eq_true rfl)) (m_mark0 (dp_dk he _ _) (by omega) (by omega)) ?_
    rw [show rm (dp e 11 0) 1 n false = dp (tb e 1 n) 11 0 from e1]
    refine eR.step 1 (F' := (163, [(0, .ref 23), (1, .int (nI 0)), (2, .int (nI (n))), (3, .int (v)), (4, .int (nI 1)), (5, .int (nI 1)), (6, .int (nI 1))], [.int (nI 1)])) (h' := (Wd C (dp (tb e 1 n) 11 0) P Q m N R 0 Z)) (fun _ _ => rfl) ?_
    exact eR.ret rfl rfl rfl
  · rw [Bool.eq_false_iff.mpr hb] at e1
    refine eR.ifc rfl false (mb_nf hb) ?_
    refine eR.step 2 (F' := (159, [(0, .ref 23), (1, .int (nI 0)), (2, .int (nI (n))), (3, .int (v)), (4, .int (nI 1)), (5, .int (nI 1)), (6, .int (nI 1))], [.int (nI 1), .int (nI (n)), .int (nI 1), .ref 23])) (h' := (Wd C (dp e (11) (0)) P Q m N R 0 Z)) (fun _ _ => rfl) ?_
    refine eR.call (k' := 107) (as := [.ref 23, .int (nI 1), .int (nI (n)), .int (nI 1)]) (rest := []) (v := none) (h1 := (Wd C (rm (dp e 11 0) 1 n true) P Q m N R 0 Z)) rfl rfl rfl rfl (eg (Nat.le_of_ble_eq_true rfl) (show 24 ≤ lo by omega) (Nat.le_of_ble_eq_true rfl)) (m_mark1 (dp_dk he _ _) (by omega) (by omega)) ?_
    rw [show rm (dp e 11 0) 1 n true = dp (tb e 1 n) 11 0 from e1]
    refine eR.step 1 (F' := (163, [(0, .ref 23), (1, .int (nI 0)), (2, .int (nI (n))), (3, .int (v)), (4, .int (nI 1)), (5, .int (nI 1)), (6, .int (nI 1))], [.int (nI 1)])) (h' := (Wd C (dp (tb e 1 n) 11 0) P Q m N R 0 Z)) (fun _ _ => rfl) ?_
    exact eR.ret rfl rfl rfl
theorem m_spoil1 {cm sm fr lo : Nat} {C : gC} {e : Nat → Nat} {P Q : gT} {m : Nat} {N : Nat → Nat} {R : gS} {t : Nat} {Z : mj_H} (hlo : 41 ≤ lo) (he : dk e) {n : Nat} (h : 9 ≤ n ∧ n < 64) {v : Int32} : eE mm_P cm sm (fr + 3) lo 158 [.ref 23, .int (nI 1), .int (nI (n)), .int (v)] (Wd C e P Q m N R t Z) (.inl (some (.int (nI 1))), (Wd C (dp (tb e 3 n) 11 0) P Q m N R 0 Z)) := by
  refine eE.of ?_
  refine eR.step 2 (F' := (2, [(0, .ref 23), (1, .int (nI 1)), (2, .int (nI (n))), (3, .int (v))], [.int (nI 0), .ref 23])) (h' := (Wd C e P Q m N R t Z)) (fun _ _ => rfl) ?_
  refine eR.sim rfl (F := (5, [(0, .ref 23), (1, .int (nI 1)), (2, .int (nI (n))), (3, .int (v))], [])) (h' := (Wd C e P Q m N R 0 Z)) (by rfl) ?_
  refine eR.step 2 (F' := (7, [(0, .ref 23), (1, .int (nI 1)), (2, .int (nI (n))), (3, .int (v))], [.int (nI 1), .int (nI (n))])) (h' := (Wd C e P Q m N R 0 Z)) (fun _ _ => rfl) ?_
  by_cases h16 : n < 16
  · refine eR.icmp rfl false ((nc_lt (by omega) (by omega)).trans (decide_eq_false (by omega))) ?_
    refine eR.step 2 (F' := (13, [(0, .ref 23), (1, .int (nI 1)), (2, .int (nI (n))), (3, .int (v))], [.int (nI 16), .int (nI (n))])) (h' := (Wd C e P Q m N R 0 Z)) (fun _ _ => rfl) ?_
    refine eR.icmp rfl false ((nc_ge (by omega) (by omega)).trans (decide_eq_false (by omega))) ?_
    refine eR.step 4 (F' := (24, [(0, .ref 23), (1, .int (nI 1)), (2, .int (nI (n))), (3, .int (v)), (4, .int (nI 1))], [.int (nI 1)])) (h' := (Wd C e P Q m N R 0 Z)) (fun _ _ => rfl) ?_
    refine eR.ifc rfl true rfl ?_
    refine eR.step 2 (F' := (34, [(0, .ref 23), (1, .int (nI 1)), (2, .int (nI (n))), (3, .int (v)), (4, .int (nI 1))], [.int (nI 1), .int (nI 1)])) (h' := (Wd C e P Q m N R 0 Z)) (fun _ _ => rfl) ?_
    refine eR.icmp rfl false rfl ?_
    refine eR.step 2 (F' := (40, [(0, .ref 23), (1, .int (nI 1)), (2, .int (nI (n))), (3, .int (v)), (4, .int (nI 1))], [.int (nI 9), .int (nI (n))])) (h' := (Wd C e P Q m N R 0 Z)) (fun _ _ => rfl) ?_
    refine eR.icmp rfl false ((nc_lt (by omega) (by omega)).trans (decide_eq_false (by omega))) ?_
    refine eR.step 2 (F' := (46, [(0, .ref 23), (1, .int (nI 1)), (2, .int (nI (n))), (3, .int (v)), (4, .int (nI 1))], [.int (nI 64), .int (nI (n))])) (h' := (Wd C e P Q m N R 0 Z)) (fun _ _ => rfl) ?_
    refine eR.icmp rfl true ((nc_lt (by omega) (by omega)).trans (decide_eq_true (by omega))) ?_
    refine eR.step 4 (F' := (96, [(0, .ref 23), (1, .int (nI 1)), (2, .int (nI (n))), (3, .int (v)), (4, .int (nI 1)), (5, .int (nI 1))], [.int (nI 1)])) (h' := (Wd C e P Q m N R 0 Z)) (fun _ _ => rfl) ?_
    refine eR.ifc rfl true rfl ?_
    refine eR.step 4 (F' := (108, [(0, .ref 23), (1, .int (nI 1)), (2, .int (nI (n))), (3, .int (v)), (4, .int (nI 1)), (5, .int (nI 1))], [.int (nI 0), .int (nI 11), .ref 24])) (h' := (Wd C e P Q m N R 0 Z)) (fun _ _ => rfl) ?_
    refine eR.st24 rfl (by omega) (by decide) ?_
    refine eR.step 2 (F' := (111, [(0, .ref 23), (1, .int (nI 1)), (2, .int (nI (n))), (3, .int (v)), (4, .int (nI 1)), (5, .int (nI 1))], [.int (nI 2), .int (nI 1)])) (h' := (Wd C (dp e (11) (0)) P Q m N R 0 Z)) (fun _ _ => rfl) ?_
    refine eR.icmp rfl true rfl ?_
    refine eR.step 1 (F' := (130, [(0, .ref 23), (1, .int (nI 1)), (2, .int (nI (n))), (3, .int (v)), (4, .int (nI 1)), (5, .int (nI 1))], [.int (nI 1)])) (h' := (Wd C (dp e (11) (0)) P Q m N R 0 Z)) (fun _ _ => rfl) ?_
    refine eR.ifc rfl true rfl ?_
    refine eR.step 8 (F' := (148, [(0, .ref 23), (1, .int (nI 1)), (2, .int (nI (n))), (3, .int (v)), (4, .int (nI 1)), (5, .int (nI 1)), (6, .int (nI 3))], [.int (nI (n)), .int (nI 3), .ref 23, .int (nI (n)), .int (nI 3), .ref 23])) (h' := (Wd C (dp e (11) (0)) P Q m N R 0 Z)) (fun _ _ => rfl) ?_
    refine eR.call (k' := 110) (as := [.ref 23, .int (nI 3), .int (nI (n))]) (rest := [.int (nI (n)), .int (nI 3), .ref 23]) (v := some (.int (nI (bi (bt (dp e 11 0) 3 n))))) (h1 := (Wd C (dp e (11) (0)) P Q m N R 0 Z)) rfl rfl rfl rfl (eg (Nat.le_of_ble_eq_true rfl) (show 22 ≤ lo by omega) (Nat.le_of_ble_eq_true rfl)) (m_is (dp_dk he _ _) (by omega) (by omega)) ?_
    have e1 : rm (dp e 11 0) 3 n (!bt (dp e 11 0) 3 n) = dp (tb e 3 n) 11 0 := by rw [rm_not, tb_11 _ _ _ (by omega)]
    by_cases hb : bt (dp e 11 0) 3 n = true
    · rw [hb] at e1
      refine eR.ifc rfl true (mb_nt hb) ?_
      refine eR.step 1 (F' := (159, [(0, .ref 23), (1, .int (nI 1)), (2, .int (nI (n))), (3, .int (v)), (4, .int (nI 1)), (5, .int (nI 1)), (6, .int (nI 3))], [.int (nI 0), .int (nI (n)), .int (nI 3), .ref 23])) (h' := (Wd C (dp e (11) (0)) P Q m N R 0 Z)) (fun _ _ => rfl) ?_
      refine eR.call (k' := 107) (as := [.ref 23, .int (nI 3), .int (nI (n)), .int (nI 0)]) (rest := []) (v := none) (h1 := (Wd C (rm (dp e 11 0) 3 n false) P Q m N R 0 Z)) rfl rfl rfl rfl (eg (Nat.le_of_ble_eq_true rfl) (show 24 ≤ lo by omega) (Nat.le_of_ble_eq_true rfl)) (m_mark0 (dp_dk he _ _) (by omega) (by omega)) ?_
      rw [show rm (dp e 11 0) 3 n false = dp (tb e 3 n) 11 0 from e1]
      refine eR.step 1 (F' := (163, [(0, .ref 23), (1, .int (nI 1)), (2, .int (nI (n))), (3, .int (v)), (4, .int (nI 1)), (5, .int (nI 1)), (6, .int (nI 3))], [.int (nI 1)])) (h' := (Wd C (dp (tb e 3 n) 11 0) P Q m N R 0 Z)) (fun _ _ => rfl) ?_
      exact eR.ret rfl rfl rfl
    · rw [Bool.eq_false_iff.mpr hb] at e1
      refine eR.ifc rfl false (mb_nf hb) ?_
      refine eR.step 2 (F' := (159, [(0, .ref 23), (1, .int (nI 1)), (2, .int (nI (n))), (3, .int (v)), (4, .int (nI 1)), (5, .int (nI 1)), (6, .int (nI 3))], [.int (nI 1), .int (nI (n)), .int (nI 3), .ref 23])) (h' := (Wd C (dp e (11) (0)) P Q m N R 0 Z)) (fun _ _ => rfl) ?_
      refine eR.call (k' := 107) (as := [.ref 23, .int (nI 3), .int (nI (n)), .int (nI 1)]) (rest := []) (v := none) (h1 := (Wd C (rm (dp e 11 0) 3 n true) P Q m N R 0 Z)) rfl rfl rfl rfl (eg (Nat.le_of_ble_eq_true rfl) (show 24 ≤ lo by omega) (Nat.le_of_ble_eq_true rfl)) (m_mark1 (dp_dk he _ _) (by omega) (by omega)) ?_
      rw [show rm (dp e 11 0) 3 n true = dp (tb e 3 n) 11 0 from e1]
      refine eR.step 1 (F' := (163, [(0, .ref 23), (1, .int (nI 1)), (2, .int (nI (n))), (3, .int (v)), (4, .int (nI 1)), (5, .int (nI 1)), (6, .int (nI 3))], [.int (nI 1)])) (h' := (Wd C (dp (tb e 3 n) 11 0) P Q m N R 0 Z)) (fun _ _ => rfl) ?_
      exact eR.ret rfl rfl rfl
  · refine eR.icmp rfl false ((nc_lt (by omega) (by omega)).trans (decide_eq_false (by omega))) ?_
    refine eR.step 2 (F' := (13, [(0, .ref 23), (1, .int (nI 1)), (2, .int (nI (n))), (3, .int (v))], [.int (nI 16), .int (nI (n))])) (h' := (Wd C e P Q m N R 0 Z)) (fun _ _ => rfl) ?_
    refine eR.icmp rfl true ((nc_ge (by omega) (by omega)).trans (decide_eq_true (by omega))) ?_
    refine eR.step 3 (F' := (24, [(0, .ref 23), (1, .int (nI 1)), (2, .int (nI (n))), (3, .int (v)), (4, .int (nI 0))], [.int (nI 1)])) (h' := (Wd C e P Q m N R 0 Z)) (fun _ _ => rfl) ?_
    refine eR.ifc rfl true rfl ?_
    refine eR.step 2 (F' := (34, [(0, .ref 23), (1, .int (nI 1)), (2, .int (nI (n))), (3, .int (v)), (4, .int (nI 0))], [.int (nI 1), .int (nI 1)])) (h' := (Wd C e P Q m N R 0 Z)) (fun _ _ => rfl) ?_
    refine eR.icmp rfl false rfl ?_
    refine eR.step 2 (F' := (40, [(0, .ref 23), (1, .int (nI 1)), (2, .int (nI (n))), (3, .int (v)), (4, .int (nI 0))], [.int (nI 9), .int (nI (n))])) (h' := (Wd C e P Q m N R 0 Z)) (fun _ _ => rfl) ?_
    refine eR.icmp rfl false ((nc_lt (by omega) (by omega)).trans (decide_eq_false (by omega))) ?_
    refine eR.step 2 (F' := (46, [(0, .ref 23), (1, .int (nI 1)), (2, .int (nI (n))), (3, .int (v)), (4, .int (nI 0))], [.int (nI 64), .int (nI (n))])) (h' := (Wd C e P Q m N R 0 Z)) (fun _ _ => rfl) ?_
    refine eR.icmp rfl true ((nc_lt (by omega) (by omega)).trans (decide_eq_true (by omega))) ?_
    refine eR.step 4 (F' := (96, [(0, .ref 23), (1, .int (nI 1)), (2, .int (nI (n))), (3, .int (v)), (4, .int (nI 0)), (5, .int (nI 1))], [.int (nI 1)])) (h' := (Wd C e P Q m N R 0 Z)) (fun _ _ => rfl) ?_
    refine eR.ifc rfl true rfl ?_
    refine eR.step 4 (F' := (108, [(0, .ref 23), (1, .int (nI 1)), (2, .int (nI (n))), (3, .int (v)), (4, .int (nI 0)), (5, .int (nI 1))], [.int (nI 0), .int (nI 11), .ref 24])) (h' := (Wd C e P Q m N R 0 Z)) (fun _ _ => rfl) ?_
    refine eR.st24 rfl (by omega) (by decide) ?_
    refine eR.step 2 (F' := (111, [(0, .ref 23), (1, .int (nI 1)), (2, .int (nI (n))), (3, .int (v)), (4, .int (nI 0)), (5, .int (nI 1))], [.int (nI 2), .int (nI 1)])) (h' := (Wd C (dp e (11) (0)) P Q m N R 0 Z)) (fun _ _ => rfl) ?_
    refine eR.icmp rfl true rfl ?_
    refine eR.step 1 (F' := (130, [(0, .ref 23), (1, .int (nI 1)), (2, .int (nI (n))), (3, .int (v)), (4, .int (nI 0)), (5, .int (nI 1))], [.int (nI 1)])) (h' := (Wd C (dp e (11) (0)) P Q m N R 0 Z)) (fun _ _ => rfl) ?_
    refine eR.ifc rfl true rfl ?_
    refine eR.step 8 (F' := (148, [(0, .ref 23), (1, .int (nI 1)), (2, .int (nI (n))), (3, .int (v)), (4, .int (nI 0)), (5, .int (nI 1)), (6, .int (nI 3))], [.int (nI (n)), .int (nI 3), .ref 23, .int (nI (n)), .int (nI 3), .ref 23])) (h' := (Wd C (dp e (11) (0)) P Q m N R 0 Z)) (fun _ _ => rfl) ?_
    refine eR.call (k' := 110) (as := [.ref 23, .int (nI 3), .int (nI (n))]) (rest := [.int (nI (n)), .int (nI 3), .ref 23]) (v := some (.int (nI (bi (bt (dp e 11 0) 3 n))))) (h1 := (Wd C (dp e (11) (0)) P Q m N R 0 Z)) rfl rfl rfl rfl (eg (Nat.le_of_ble_eq_true rfl) (show 22 ≤ lo by omega) (Nat.le_of_ble_eq_true rfl)) (m_is (dp_dk he _ _) (by omega) (by omega)) ?_
    have e1 : rm (dp e 11 0) 3 n (!bt (dp e 11 0) 3 n) = dp (tb e 3 n) 11 0 := by rw [rm_not, tb_11 _ _ _ (by omega)]
    by_cases hb : bt (dp e 11 0) 3 n = true
    · rw [hb] at e1
      refine eR.ifc rfl true (mb_nt hb) ?_
      refine eR.step 1 (F' := (159, [(0, .ref 23), (1, .int (nI 1)), (2, .int (nI (n))), (3, .int (v)), (4, .int (nI 0)), (5, .int (nI 1)), (6, .int (nI 3))], [.int (nI 0), .int (nI (n)), .int (nI 3), .ref 23])) (h' := (Wd C (dp e (11) (0)) P Q m N R 0 Z)) (fun _ _ => rfl) ?_
      refine eR.call (k' := 107) (as := [.ref 23, .int (nI 3), .int (nI (n)), .int (nI 0)]) (rest := []) (v := none) (h1 := (Wd C (rm (dp e 11 0) 3 n false) P Q m N R 0 Z)) rfl rfl rfl rfl (eg (Nat.le_of_ble_eq_true rfl) (show 24 ≤ lo by omega) (Nat.le_of_ble_eq_true rfl)) (m_mark0 (dp_dk he _ _) (by omega) (by omega)) ?_
      rw [show rm (dp e 11 0) 3 n false = dp (tb e 3 n) 11 0 from e1]
      refine eR.step 1 (F' := (163, [(0, .ref 23), (1, .int (nI 1)), (2, .int (nI (n))), (3, .int (v)), (4, .int (nI 0)), (5, .int (nI 1)), (6, .int (nI 3))], [.int (nI 1)])) (h' := (Wd C (dp (tb e 3 n) 11 0) P Q m N R 0 Z)) (fun _ _ => rfl) ?_
      exact eR.ret rfl rfl rfl
    · rw [Bool.eq_false_iff.mpr hb] at e1
      refine eR.ifc rfl false (mb_nf hb) ?_
      refine eR.step 2 (F' := (159, [(0, .ref 23), (1, .int (nI 1)), (2, .int (nI (n))), (3, .int (v)), (4, .int (nI 0)), (5, .int (nI 1)), (6, .int (nI 3))], [.int (nI 1), .int (nI (n)), .int (nI 3), .ref 23])) (h' := (Wd C (dp e (11) (0)) P Q m N R 0 Z)) (fun _ _ => rfl) ?_
      refine eR.call (k' := 107) (as := [.ref 23, .int (nI 3), .int (nI (n)), .int (nI 1)]) (rest := []) (v := none) (h1 := (Wd C (rm (dp e 11 0) 3 n true) P Q m N R 0 Z)) rfl rfl rfl rfl (eg (Nat.le_of_ble_eq_true rfl) (show 24 ≤ lo by omega) (Nat.le_of_ble_eq_true rfl)) (m_mark1 (dp_dk he _ _) (by omega) (by omega)) ?_
      rw [show rm (dp e 11 0) 3 n true = dp (tb e 3 n) 11 0 from e1]
      refine eR.step 1 (F' := (163, [(0, .ref 23), (1, .int (nI 1)), (2, .int (nI (n))), (3, .int (v)), (4, .int (nI 0)), (5, .int (nI 1)), (6, .int (nI 3))], [.int (nI 1)])) (h' := (Wd C (dp (tb e 3 n) 11 0) P Q m N R 0 Z)) (fun _ _ => rfl) ?_
      exact eR.ret rfl rfl rfl
theorem m_spoil0N {cm sm fr lo : Nat} {C : gC} {e : Nat → Nat} {P Q : gT} {m : Nat} {N : Nat → Nat} {R : gS} {t : Nat} {Z : mj_H} (hlo : 41 ≤ lo) {n : Nat} (hn : n < 2 ^ 31) (h : ¬ (1 ≤ n ∧ n < 16)) {v : Int32} : eE mm_P cm sm (fr + 3) lo 158 [.ref 23, .int (nI 0), .int (nI (n)), .int (v)] (Wd C e P Q m N R t Z) (.inl (some (.int (nI 0))), (Wd C e P Q m N R 0 Z)) := by
  refine eE.of ?_
  refine eR.step 2 (F' := (2, [(0, .ref 23), (1, .int (nI 0)), (2, .int (nI (n))), (3, .int (v))], [.int (nI 0), .ref 23])) (h' := (Wd C e P Q m N R t Z)) (fun _ _ => rfl) ?_
  refine eR.sim rfl (F := (5, [(0, .ref 23), (1, .int (nI 0)), (2, .int (nI (n))), (3, .int (v))], [])) (h' := (Wd C e P Q m N R 0 Z)) (by rfl) ?_
  refine eR.step 2 (F' := (7, [(0, .ref 23), (1, .int (nI 0)), (2, .int (nI (n))), (3, .int (v))], [.int (nI 1), .int (nI (n))])) (h' := (Wd C e P Q m N R 0 Z)) (fun _ _ => rfl) ?_
  by_cases hc : n < 1
  · refine eR.icmp rfl true ((nc_lt (by omega) (by omega)).trans (decide_eq_true (by omega))) ?_
    refine eR.step 3 (F' := (24, [(0, .ref 23), (1, .int (nI 0)), (2, .int (nI (n))), (3, .int (v)), (4, .int (nI 0))], [.int (nI 0)])) (h' := (Wd C e P Q m N R 0 Z)) (fun _ _ => rfl) ?_
    refine eR.ifc rfl false rfl ?_
    refine eR.step 1 (F' := (29, [(0, .ref 23), (1, .int (nI 0)), (2, .int (nI (n))), (3, .int (v)), (4, .int (nI 0))], [.int (nI 0)])) (h' := (Wd C e P Q m N R 0 Z)) (fun _ _ => rfl) ?_
    refine eR.ifc rfl false rfl ?_
    refine eR.step 2 (F' := (34, [(0, .ref 23), (1, .int (nI 0)), (2, .int (nI (n))), (3, .int (v)), (4, .int (nI 0))], [.int (nI 1), .int (nI 0)])) (h' := (Wd C e P Q m N R 0 Z)) (fun _ _ => rfl) ?_
    refine eR.icmp rfl true rfl ?_
    refine eR.step 2 (F' := (51, [(0, .ref 23), (1, .int (nI 0)), (2, .int (nI (n))), (3, .int (v)), (4, .int (nI 0))], [.int (nI 2), .int (nI 0)])) (h' := (Wd C e P Q m N R 0 Z)) (fun _ _ => rfl) ?_
    refine eR.icmp rfl true rfl ?_
    refine eR.step 3 (F' := (96, [(0, .ref 23), (1, .int (nI 0)), (2, .int (nI (n))), (3, .int (v)), (4, .int (nI 0)), (5, .int (nI 0))], [.int (nI 0)])) (h' := (Wd C e P Q m N R 0 Z)) (fun _ _ => rfl) ?_
    refine eR.ifc rfl false rfl ?_
    refine eR.step 1 (F' := (100, [(0, .ref 23), (1, .int (nI 0)), (2, .int (nI (n))), (3, .int (v)), (4, .int (nI 0)), (5, .int (nI 0))], [.int (nI 0)])) (h' := (Wd C e P Q m N R 0 Z)) (fun _ _ => rfl) ?_
    exact eR.ret rfl rfl rfl
  · refine eR.icmp rfl false ((nc_lt (by omega) (by omega)).trans (decide_eq_false (by omega))) ?_
    refine eR.step 2 (F' := (13, [(0, .ref 23), (1, .int (nI 0)), (2, .int (nI (n))), (3, .int (v))], [.int (nI 16), .int (nI (n))])) (h' := (Wd C e P Q m N R 0 Z)) (fun _ _ => rfl) ?_
    refine eR.icmp rfl true ((nc_ge (by omega) (by omega)).trans (decide_eq_true (by omega))) ?_
    refine eR.step 3 (F' := (24, [(0, .ref 23), (1, .int (nI 0)), (2, .int (nI (n))), (3, .int (v)), (4, .int (nI 0))], [.int (nI 0)])) (h' := (Wd C e P Q m N R 0 Z)) (fun _ _ => rfl) ?_
    refine eR.ifc rfl false rfl ?_
    refine eR.step 1 (F' := (29, [(0, .ref 23), (1, .int (nI 0)), (2, .int (nI (n))), (3, .int (v)), (4, .int (nI 0))], [.int (nI 0)])) (h' := (Wd C e P Q m N R 0 Z)) (fun _ _ => rfl) ?_
    refine eR.ifc rfl false rfl ?_
    refine eR.step 2 (F' := (34, [(0, .ref 23), (1, .int (nI 0)), (2, .int (nI (n))), (3, .int (v)), (4, .int (nI 0))], [.int (nI 1), .int (nI 0)])) (h' := (Wd C e P Q m N R 0 Z)) (fun _ _ => rfl) ?_
    refine eR.icmp rfl true rfl ?_
    refine eR.step 2 (F' := (51, [(0, .ref 23), (1, .int (nI 0)), (2, .int (nI (n))), (3, .int (v)), (4, .int (nI 0))], [.int (nI 2), .int (nI 0)])) (h' := (Wd C e P Q m N R 0 Z)) (fun _ _ => rfl) ?_
    refine eR.icmp rfl true rfl ?_
    refine eR.step 3 (F' := (96, [(0, .ref 23), (1, .int (nI 0)), (2, .int (nI (n))), (3, .int (v)), (4, .int (nI 0)), (5, .int (nI 0))], [.int (nI 0)])) (h' := (Wd C e P Q m N R 0 Z)) (fun _ _ => rfl) ?_
    refine eR.ifc rfl false rfl ?_
    refine eR.step 1 (F' := (100, [(0, .ref 23), (1, .int (nI 0)), (2, .int (nI (n))), (3, .int (v)), (4, .int (nI 0)), (5, .int (nI 0))], [.int (nI 0)])) (h' := (Wd C e P Q m N R 0 Z)) (fun _ _ => rfl) ?_
    exact eR.ret rfl rfl rfl
theorem m_spoil0M {cm sm fr lo : Nat} {C : gC} {e : Nat → Nat} {P Q : gT} {m : Nat} {N : Nat → Nat} {R : gS} {t : Nat} {Z : mj_H} (hlo : 41 ≤ lo) {x : Int32} (hx : x < 0) {v : Int32} : eE mm_P cm sm (fr + 3) lo 158 [.ref 23, .int (nI 0), .int (x), .int (v)] (Wd C e P Q m N R t Z) (.inl (some (.int (nI 0))), (Wd C e P Q m N R 0 Z)) := by
  refine eE.of ?_
  refine eR.step 2 (F' := (2, [(0, .ref 23), (1, .int (nI 0)), (2, .int (x)), (3, .int (v))], [.int (nI 0), .ref 23])) (h' := (Wd C e P Q m N R t Z)) (fun _ _ => rfl) ?_
  refine eR.sim rfl (F := (5, [(0, .ref 23), (1, .int (nI 0)), (2, .int (x)), (3, .int (v))], [])) (h' := (Wd C e P Q m N R 0 Z)) (by rfl) ?_
  refine eR.step 2 (F' := (7, [(0, .ref 23), (1, .int (nI 0)), (2, .int (x)), (3, .int (v))], [.int (nI 1), .int (x)])) (h' := (Wd C e P Q m N R 0 Z)) (fun _ _ => rfl) ?_
  refine eR.icmp rfl true (mc_ltn hx (by decide)) ?_
  refine eR.step 3 (F' := (24, [(0, .ref 23), (1, .int (nI 0)), (2, .int (x)), (3, .int (v)), (4, .int (nI 0))], [.int (nI 0)])) (h' := (Wd C e P Q m N R 0 Z)) (fun _ _ => rfl) ?_
  refine eR.ifc rfl false rfl ?_
  refine eR.step 1 (F' := (29, [(0, .ref 23), (1, .int (nI 0)), (2, .int (x)), (3, .int (v)), (4, .int (nI 0))], [.int (nI 0)])) (h' := (Wd C e P Q m N R 0 Z)) (fun _ _ => rfl) ?_
  refine eR.ifc rfl false rfl ?_
  refine eR.step 2 (F' := (34, [(0, .ref 23), (1, .int (nI 0)), (2, .int (x)), (3, .int (v)), (4, .int (nI 0))], [.int (nI 1), .int (nI 0)])) (h' := (Wd C e P Q m N R 0 Z)) (fun _ _ => rfl) ?_
  refine eR.icmp rfl true rfl ?_
  refine eR.step 2 (F' := (51, [(0, .ref 23), (1, .int (nI 0)), (2, .int (x)), (3, .int (v)), (4, .int (nI 0))], [.int (nI 2), .int (nI 0)])) (h' := (Wd C e P Q m N R 0 Z)) (fun _ _ => rfl) ?_
  refine eR.icmp rfl true rfl ?_
  refine eR.step 3 (F' := (96, [(0, .ref 23), (1, .int (nI 0)), (2, .int (x)), (3, .int (v)), (4, .int (nI 0)), (5, .int (nI 0))], [.int (nI 0)])) (h' := (Wd C e P Q m N R 0 Z)) (fun _ _ => rfl) ?_
  refine eR.ifc rfl false rfl ?_
  refine eR.step 1 (F' := (100, [(0, .ref 23), (1, .int (nI 0)), (2, .int (x)), (3, .int (v)), (4, .int (nI 0)), (5, .int (nI 0))], [.int (nI 0)])) (h' := (Wd C e P Q m N R 0 Z)) (fun _ _ => rfl) ?_
  exact eR.ret rfl rfl rfl
theorem m_spoil1N {cm sm fr lo : Nat} {C : gC} {e : Nat → Nat} {P Q : gT} {m : Nat} {N : Nat → Nat} {R : gS} {t : Nat} {Z : mj_H} (hlo : 41 ≤ lo) {n : Nat} (hn : n < 2 ^ 31) (h : ¬ (9 ≤ n ∧ n < 64)) {v : Int32} : eE mm_P cm sm (fr + 3) lo 158 [.ref 23, .int (nI 1), .int (nI (n)), .int (v)] (Wd C e P Q m N R t Z) (.inl (some (.int (nI 0))), (Wd C e P Q m N R 0 Z)) := by
  refine eE.of ?_
  refine eR.step 2 (F' := (2, [(0, .ref 23), (1, .int (nI 1)), (2, .int (nI (n))), (3, .int (v))], [.int (nI 0), .ref 23])) (h' := (Wd C e P Q m N R t Z)) (fun _ _ => rfl) ?_
  refine eR.sim rfl (F := (5, [(0, .ref 23), (1, .int (nI 1)), (2, .int (nI (n))), (3, .int (v))], [])) (h' := (Wd C e P Q m N R 0 Z)) (by rfl) ?_
  refine eR.step 2 (F' := (7, [(0, .ref 23), (1, .int (nI 1)), (2, .int (nI (n))), (3, .int (v))], [.int (nI 1), .int (nI (n))])) (h' := (Wd C e P Q m N R 0 Z)) (fun _ _ => rfl) ?_
  by_cases h9 : n < 9
  · by_cases hc : n < 1
    · refine eR.icmp rfl true ((nc_lt (by omega) (by omega)).trans (decide_eq_true (by omega))) ?_
      refine eR.step 3 (F' := (24, [(0, .ref 23), (1, .int (nI 1)), (2, .int (nI (n))), (3, .int (v)), (4, .int (nI 0))], [.int (nI 1)])) (h' := (Wd C e P Q m N R 0 Z)) (fun _ _ => rfl) ?_
      refine eR.ifc rfl true rfl ?_
      refine eR.step 2 (F' := (34, [(0, .ref 23), (1, .int (nI 1)), (2, .int (nI (n))), (3, .int (v)), (4, .int (nI 0))], [.int (nI 1), .int (nI 1)])) (h' := (Wd C e P Q m N R 0 Z)) (fun _ _ => rfl) ?_
      refine eR.icmp rfl false rfl ?_
      refine eR.step 2 (F' := (40, [(0, .ref 23), (1, .int (nI 1)), (2, .int (nI (n))), (3, .int (v)), (4, .int (nI 0))], [.int (nI 9), .int (nI (n))])) (h' := (Wd C e P Q m N R 0 Z)) (fun _ _ => rfl) ?_
      refine eR.icmp rfl true ((nc_lt (by omega) (by omega)).trans (decide_eq_true (by omega))) ?_
      refine eR.step 2 (F' := (51, [(0, .ref 23), (1, .int (nI 1)), (2, .int (nI (n))), (3, .int (v)), (4, .int (nI 0))], [.int (nI 2), .int (nI 1)])) (h' := (Wd C e P Q m N R 0 Z)) (fun _ _ => rfl) ?_
      refine eR.icmp rfl true rfl ?_
      refine eR.step 3 (F' := (96, [(0, .ref 23), (1, .int (nI 1)), (2, .int (nI (n))), (3, .int (v)), (4, .int (nI 0)), (5, .int (nI 0))], [.int (nI 0)])) (h' := (Wd C e P Q m N R 0 Z)) (fun _ _ => rfl) ?_
      refine eR.ifc rfl false rfl ?_
      refine eR.step 1 (F' := (100, [(0, .ref 23), (1, .int (nI 1)), (2, .int (nI (n))), (3, .int (v)), (4, .int (nI 0)), (5, .int (nI 0))], [.int (nI 0)])) (h' := (Wd C e P Q m N R 0 Z)) (fun _ _ => rfl) ?_
      exact eR.ret rfl rfl rfl
    · refine eR.icmp rfl false ((nc_lt (by omega) (by omega)).trans (decide_eq_false (by omega))) ?_
      refine eR.step 2 (F' := (13, [(0, .ref 23), (1, .int (nI 1)), (2, .int (nI (n))), (3, .int (v))], [.int (nI 16), .int (nI (n))])) (h' := (Wd C e P Q m N R 0 Z)) (fun _ _ => rfl) ?_
      refine eR.icmp rfl false ((nc_ge (by omega) (by omega)).trans (decide_eq_false (by omega))) ?_
      refine eR.step 4 (F' := (24, [(0, .ref 23), (1, .int (nI 1)), (2, .int (nI (n))), (3, .int (v)), (4, .int (nI 1))], [.int (nI 1)])) (h' := (Wd C e P Q m N R 0 Z)) (fun _ _ => rfl) ?_
      refine eR.ifc rfl true rfl ?_
      refine eR.step 2 (F' := (34, [(0, .ref 23), (1, .int (nI 1)), (2, .int (nI (n))), (3, .int (v)), (4, .int (nI 1))], [.int (nI 1), .int (nI 1)])) (h' := (Wd C e P Q m N R 0 Z)) (fun _ _ => rfl) ?_
      refine eR.icmp rfl false rfl ?_
      refine eR.step 2 (F' := (40, [(0, .ref 23), (1, .int (nI 1)), (2, .int (nI (n))), (3, .int (v)), (4, .int (nI 1))], [.int (nI 9), .int (nI (n))])) (h' := (Wd C e P Q m N R 0 Z)) (fun _ _ => rfl) ?_
      refine eR.icmp rfl true ((nc_lt (by omega) (by omega)).trans (decide_eq_true (by omega))) ?_
      refine eR.step 2 (F' := (51, [(0, .ref 23), (1, .int (nI 1)), (2, .int (nI (n))), (3, .int (v)), (4, .int (nI 1))], [.int (nI 2), .int (nI 1)])) (h' := (Wd C e P Q m N R 0 Z)) (fun _ _ => rfl) ?_
      refine eR.icmp rfl true rfl ?_
      refine eR.step 3 (F' := (96, [(0, .ref 23), (1, .int (nI 1)), (2, .int (nI (n))), (3, .int (v)), (4, .int (nI 1)), (5, .int (nI 0))], [.int (nI 0)])) (h' := (Wd C e P Q m N R 0 Z)) (fun _ _ => rfl) ?_
      refine eR.ifc rfl false rfl ?_
      refine eR.step 1 (F' := (100, [(0, .ref 23), (1, .int (nI 1)), (2, .int (nI (n))), (3, .int (v)), (4, .int (nI 1)), (5, .int (nI 0))], [.int (nI 0)])) (h' := (Wd C e P Q m N R 0 Z)) (fun _ _ => rfl) ?_
      exact eR.ret rfl rfl rfl
  · refine eR.icmp rfl false ((nc_lt (by omega) (by omega)).trans (decide_eq_false (by omega))) ?_
    refine eR.step 2 (F' := (13, [(0, .ref 23), (1, .int (nI 1)), (2, .int (nI (n))), (3, .int (v))], [.int (nI 16), .int (nI (n))])) (h' := (Wd C e P Q m N R 0 Z)) (fun _ _ => rfl) ?_
    refine eR.icmp rfl true ((nc_ge (by omega) (by omega)).trans (decide_eq_true (by omega))) ?_
    refine eR.step 3 (F' := (24, [(0, .ref 23), (1, .int (nI 1)), (2, .int (nI (n))), (3, .int (v)), (4, .int (nI 0))], [.int (nI 1)])) (h' := (Wd C e P Q m N R 0 Z)) (fun _ _ => rfl) ?_
    refine eR.ifc rfl true rfl ?_
    refine eR.step 2 (F' := (34, [(0, .ref 23), (1, .int (nI 1)), (2, .int (nI (n))), (3, .int (v)), (4, .int (nI 0))], [.int (nI 1), .int (nI 1)])) (h' := (Wd C e P Q m N R 0 Z)) (fun _ _ => rfl) ?_
    refine eR.icmp rfl false rfl ?_
    refine eR.step 2 (F' := (40, [(0, .ref 23), (1, .int (nI 1)), (2, .int (nI (n))), (3, .int (v)), (4, .int (nI 0))], [.int (nI 9), .int (nI (n))])) (h' := (Wd C e P Q m N R 0 Z)) (fun _ _ => rfl) ?_
    refine eR.icmp rfl false ((nc_lt (by omega) (by omega)).trans (decide_eq_false (by omega))) ?_
    refine eR.step 2 (F' := (46, [(0, .ref 23), (1, .int (nI 1)), (2, .int (nI (n))), (3, .int (v)), (4, .int (nI 0))], [.int (nI 64), .int (nI (n))])) (h' := (Wd C e P Q m N R 0 Z)) (fun _ _ => rfl) ?_
    refine eR.icmp rfl false ((nc_lt (by omega) (by omega)).trans (decide_eq_false (by omega))) ?_
    refine eR.step 2 (F' := (51, [(0, .ref 23), (1, .int (nI 1)), (2, .int (nI (n))), (3, .int (v)), (4, .int (nI 0))], [.int (nI 2), .int (nI 1)])) (h' := (Wd C e P Q m N R 0 Z)) (fun _ _ => rfl) ?_
    refine eR.icmp rfl true rfl ?_
    refine eR.step 3 (F' := (96, [(0, .ref 23), (1, .int (nI 1)), (2, .int (nI (n))), (3, .int (v)), (4, .int (nI 0)), (5, .int (nI 0))], [.int (nI 0)])) (h' := (Wd C e P Q m N R 0 Z)) (fun _ _ => rfl) ?_
    refine eR.ifc rfl false rfl ?_
    refine eR.step 1 (F' := (100, [(0, .ref 23), (1, .int (nI 1)), (2, .int (nI (n))), (3, .int (v)), (4, .int (nI 0)), (5, .int (nI 0))], [.int (nI 0)])) (h' := (Wd C e P Q m N R 0 Z)) (fun _ _ => rfl) ?_
    exact eR.ret rfl rfl rfl
theorem m_spoil1M {cm sm fr lo : Nat} {C : gC} {e : Nat → Nat} {P Q : gT} {m : Nat} {N : Nat → Nat} {R : gS} {t : Nat} {Z : mj_H} (hlo : 41 ≤ lo) {x : Int32} (hx : x < 0) {v : Int32} : eE mm_P cm sm (fr + 3) lo 158 [.ref 23, .int (nI 1), .int (x), .int (v)] (Wd C e P Q m N R t Z) (.inl (some (.int (nI 0))), (Wd C e P Q m N R 0 Z)) := by
  refine eE.of ?_
  refine eR.step 2 (F' := (2, [(0, .ref 23), (1, .int (nI 1)), (2, .int (x)), (3, .int (v))], [.int (nI 0), .ref 23])) (h' := (Wd C e P Q m N R t Z)) (fun _ _ => rfl) ?_
  refine eR.sim rfl (F := (5, [(0, .ref 23), (1, .int (nI 1)), (2, .int (x)), (3, .int (v))], [])) (h' := (Wd C e P Q m N R 0 Z)) (by rfl) ?_
  refine eR.step 2 (F' := (7, [(0, .ref 23), (1, .int (nI 1)), (2, .int (x)), (3, .int (v))], [.int (nI 1), .int (x)])) (h' := (Wd C e P Q m N R 0 Z)) (fun _ _ => rfl) ?_
  refine eR.icmp rfl true (mc_ltn hx (by decide)) ?_
  refine eR.step 3 (F' := (24, [(0, .ref 23), (1, .int (nI 1)), (2, .int (x)), (3, .int (v)), (4, .int (nI 0))], [.int (nI 1)])) (h' := (Wd C e P Q m N R 0 Z)) (fun _ _ => rfl) ?_
  refine eR.ifc rfl true rfl ?_
  refine eR.step 2 (F' := (34, [(0, .ref 23), (1, .int (nI 1)), (2, .int (x)), (3, .int (v)), (4, .int (nI 0))], [.int (nI 1), .int (nI 1)])) (h' := (Wd C e P Q m N R 0 Z)) (fun _ _ => rfl) ?_
  refine eR.icmp rfl false rfl ?_
  refine eR.step 2 (F' := (40, [(0, .ref 23), (1, .int (nI 1)), (2, .int (x)), (3, .int (v)), (4, .int (nI 0))], [.int (nI 9), .int (x)])) (h' := (Wd C e P Q m N R 0 Z)) (fun _ _ => rfl) ?_
  refine eR.icmp rfl true (mc_ltn hx (by decide)) ?_
  refine eR.step 2 (F' := (51, [(0, .ref 23), (1, .int (nI 1)), (2, .int (x)), (3, .int (v)), (4, .int (nI 0))], [.int (nI 2), .int (nI 1)])) (h' := (Wd C e P Q m N R 0 Z)) (fun _ _ => rfl) ?_
  refine eR.icmp rfl true rfl ?_
  refine eR.step 3 (F' := (96, [(0, .ref 23), (1, .int (nI 1)), (2, .int (x)), (3, .int (v)), (4, .int (nI 0)), (5, .int (nI 0))], [.int (nI 0)])) (h' := (Wd C e P Q m N R 0 Z)) (fun _ _ => rfl) ?_
  refine eR.ifc rfl false rfl ?_
  refine eR.step 1 (F' := (100, [(0, .ref 23), (1, .int (nI 1)), (2, .int (x)), (3, .int (v)), (4, .int (nI 0)), (5, .int (nI 0))], [.int (nI 0)])) (h' := (Wd C e P Q m N R 0 Z)) (fun _ _ => rfl) ?_
  exact eR.ret rfl rfl rfl
theorem m_spoil2N0 {cm sm fr lo : Nat} {C : gC} {e : Nat → Nat} {P Q : gT} {m : Nat} {N : Nat → Nat} {R : gS} {t : Nat} {Z : mj_H} (hlo : 41 ≤ lo) {n : Nat} (hn : n < 2 ^ 31) (h : ¬ (1 ≤ n ∧ n < 16)) {v : Int32} : eE mm_P cm sm (fr + 3) lo 158 [.ref 23, .int (nI 2), .int (nI (n)), .int (v)] (Wd C e P Q m N R t Z) (.inl (some (.int (nI 0))), (Wd C e P Q m N R 0 Z)) := by
  refine eE.of ?_
  refine eR.step 2 (F' := (2, [(0, .ref 23), (1, .int (nI 2)), (2, .int (nI (n))), (3, .int (v))], [.int (nI 0), .ref 23])) (h' := (Wd C e P Q m N R t Z)) (fun _ _ => rfl) ?_
  refine eR.sim rfl (F := (5, [(0, .ref 23), (1, .int (nI 2)), (2, .int (nI (n))), (3, .int (v))], [])) (h' := (Wd C e P Q m N R 0 Z)) (by rfl) ?_
  refine eR.step 2 (F' := (7, [(0, .ref 23), (1, .int (nI 2)), (2, .int (nI (n))), (3, .int (v))], [.int (nI 1), .int (nI (n))])) (h' := (Wd C e P Q m N R 0 Z)) (fun _ _ => rfl) ?_
  by_cases hc : n < 1
  · refine eR.icmp rfl true ((nc_lt (by omega) (by omega)).trans (decide_eq_true (by omega))) ?_
    refine eR.step 3 (F' := (24, [(0, .ref 23), (1, .int (nI 2)), (2, .int (nI (n))), (3, .int (v)), (4, .int (nI 0))], [.int (nI 2)])) (h' := (Wd C e P Q m N R 0 Z)) (fun _ _ => rfl) ?_
    refine eR.ifc rfl true rfl ?_
    refine eR.step 2 (F' := (34, [(0, .ref 23), (1, .int (nI 2)), (2, .int (nI (n))), (3, .int (v)), (4, .int (nI 0))], [.int (nI 1), .int (nI 2)])) (h' := (Wd C e P Q m N R 0 Z)) (fun _ _ => rfl) ?_
    refine eR.icmp rfl true rfl ?_
    refine eR.step 2 (F' := (51, [(0, .ref 23), (1, .int (nI 2)), (2, .int (nI (n))), (3, .int (v)), (4, .int (nI 0))], [.int (nI 2), .int (nI 2)])) (h' := (Wd C e P Q m N R 0 Z)) (fun _ _ => rfl) ?_
    refine eR.icmp rfl false rfl ?_
    refine eR.step 1 (F' := (56, [(0, .ref 23), (1, .int (nI 2)), (2, .int (nI (n))), (3, .int (v)), (4, .int (nI 0))], [.int (nI 0)])) (h' := (Wd C e P Q m N R 0 Z)) (fun _ _ => rfl) ?_
    refine eR.ifc rfl true rfl ?_
    refine eR.step 3 (F' := (96, [(0, .ref 23), (1, .int (nI 2)), (2, .int (nI (n))), (3, .int (v)), (4, .int (nI 0)), (5, .int (nI 0))], [.int (nI 0)])) (h' := (Wd C e P Q m N R 0 Z)) (fun _ _ => rfl) ?_
    refine eR.ifc rfl false rfl ?_
    refine eR.step 1 (F' := (100, [(0, .ref 23), (1, .int (nI 2)), (2, .int (nI (n))), (3, .int (v)), (4, .int (nI 0)), (5, .int (nI 0))], [.int (nI 0)])) (h' := (Wd C e P Q m N R 0 Z)) (fun _ _ => rfl) ?_
    exact eR.ret rfl rfl rfl
  · refine eR.icmp rfl false ((nc_lt (by omega) (by omega)).trans (decide_eq_false (by omega))) ?_
    refine eR.step 2 (F' := (13, [(0, .ref 23), (1, .int (nI 2)), (2, .int (nI (n))), (3, .int (v))], [.int (nI 16), .int (nI (n))])) (h' := (Wd C e P Q m N R 0 Z)) (fun _ _ => rfl) ?_
    refine eR.icmp rfl true ((nc_ge (by omega) (by omega)).trans (decide_eq_true (by omega))) ?_
    refine eR.step 3 (F' := (24, [(0, .ref 23), (1, .int (nI 2)), (2, .int (nI (n))), (3, .int (v)), (4, .int (nI 0))], [.int (nI 2)])) (h' := (Wd C e P Q m N R 0 Z)) (fun _ _ => rfl) ?_
    refine eR.ifc rfl true rfl ?_
    refine eR.step 2 (F' := (34, [(0, .ref 23), (1, .int (nI 2)), (2, .int (nI (n))), (3, .int (v)), (4, .int (nI 0))], [.int (nI 1), .int (nI 2)])) (h' := (Wd C e P Q m N R 0 Z)) (fun _ _ => rfl) ?_
    refine eR.icmp rfl true rfl ?_
    refine eR.step 2 (F' := (51, [(0, .ref 23), (1, .int (nI 2)), (2, .int (nI (n))), (3, .int (v)), (4, .int (nI 0))], [.int (nI 2), .int (nI 2)])) (h' := (Wd C e P Q m N R 0 Z)) (fun _ _ => rfl) ?_
    refine eR.icmp rfl false rfl ?_
    refine eR.step 1 (F' := (56, [(0, .ref 23), (1, .int (nI 2)), (2, .int (nI (n))), (3, .int (v)), (4, .int (nI 0))], [.int (nI 0)])) (h' := (Wd C e P Q m N R 0 Z)) (fun _ _ => rfl) ?_
    refine eR.ifc rfl true rfl ?_
    refine eR.step 3 (F' := (96, [(0, .ref 23), (1, .int (nI 2)), (2, .int (nI (n))), (3, .int (v)), (4, .int (nI 0)), (5, .int (nI 0))], [.int (nI 0)])) (h' := (Wd C e P Q m N R 0 Z)) (fun _ _ => rfl) ?_
    refine eR.ifc rfl false rfl ?_
    refine eR.step 1 (F' := (100, [(0, .ref 23), (1, .int (nI 2)), (2, .int (nI (n))), (3, .int (v)), (4, .int (nI 0)), (5, .int (nI 0))], [.int (nI 0)])) (h' := (Wd C e P Q m N R 0 Z)) (fun _ _ => rfl) ?_
    exact eR.ret rfl rfl rfl
theorem m_spoil2M {cm sm fr lo : Nat} {C : gC} {e : Nat → Nat} {P Q : gT} {m : Nat} {N : Nat → Nat} {R : gS} {t : Nat} {Z : mj_H} (hlo : 41 ≤ lo) {x : Int32} (hx : x < 0) {v : Int32} : eE mm_P cm sm (fr + 3) lo 158 [.ref 23, .int (nI 2), .int (x), .int (v)] (Wd C e P Q m N R t Z) (.inl (some (.int (nI 0))), (Wd C e P Q m N R 0 Z)) := by
  refine eE.of ?_
  refine eR.step 2 (F' := (2, [(0, .ref 23), (1, .int (nI 2)), (2, .int (x)), (3, .int (v))], [.int (nI 0), .ref 23])) (h' := (Wd C e P Q m N R t Z)) (fun _ _ => rfl) ?_
  refine eR.sim rfl (F := (5, [(0, .ref 23), (1, .int (nI 2)), (2, .int (x)), (3, .int (v))], [])) (h' := (Wd C e P Q m N R 0 Z)) (by rfl) ?_
  refine eR.step 2 (F' := (7, [(0, .ref 23), (1, .int (nI 2)), (2, .int (x)), (3, .int (v))], [.int (nI 1), .int (x)])) (h' := (Wd C e P Q m N R 0 Z)) (fun _ _ => rfl) ?_
  refine eR.icmp rfl true (mc_ltn hx (by decide)) ?_
  refine eR.step 3 (F' := (24, [(0, .ref 23), (1, .int (nI 2)), (2, .int (x)), (3, .int (v)), (4, .int (nI 0))], [.int (nI 2)])) (h' := (Wd C e P Q m N R 0 Z)) (fun _ _ => rfl) ?_
  refine eR.ifc rfl true rfl ?_
  refine eR.step 2 (F' := (34, [(0, .ref 23), (1, .int (nI 2)), (2, .int (x)), (3, .int (v)), (4, .int (nI 0))], [.int (nI 1), .int (nI 2)])) (h' := (Wd C e P Q m N R 0 Z)) (fun _ _ => rfl) ?_
  refine eR.icmp rfl true rfl ?_
  refine eR.step 2 (F' := (51, [(0, .ref 23), (1, .int (nI 2)), (2, .int (x)), (3, .int (v)), (4, .int (nI 0))], [.int (nI 2), .int (nI 2)])) (h' := (Wd C e P Q m N R 0 Z)) (fun _ _ => rfl) ?_
  refine eR.icmp rfl false rfl ?_
  refine eR.step 1 (F' := (56, [(0, .ref 23), (1, .int (nI 2)), (2, .int (x)), (3, .int (v)), (4, .int (nI 0))], [.int (nI 0)])) (h' := (Wd C e P Q m N R 0 Z)) (fun _ _ => rfl) ?_
  refine eR.ifc rfl true rfl ?_
  refine eR.step 3 (F' := (96, [(0, .ref 23), (1, .int (nI 2)), (2, .int (x)), (3, .int (v)), (4, .int (nI 0)), (5, .int (nI 0))], [.int (nI 0)])) (h' := (Wd C e P Q m N R 0 Z)) (fun _ _ => rfl) ?_
  refine eR.ifc rfl false rfl ?_
  refine eR.step 1 (F' := (100, [(0, .ref 23), (1, .int (nI 2)), (2, .int (x)), (3, .int (v)), (4, .int (nI 0)), (5, .int (nI 0))], [.int (nI 0)])) (h' := (Wd C e P Q m N R 0 Z)) (fun _ _ => rfl) ?_
  exact eR.ret rfl rfl rfl
theorem m_spoil2N1 {cm sm fr lo : Nat} {C : gC} {e : Nat → Nat} {P Q : gT} {m : Nat} {N : Nat → Nat} {R : gS} {t : Nat} {Z : mj_H} (hlo : 41 ≤ lo) (he : dk e) {n : Nat} (h : 1 ≤ n ∧ n < 16) (h1 : e (32 + (16 * n)) = 0) {v : Int32} : eE mm_P cm sm (fr + 3) lo 158 [.ref 23, .int (nI 2), .int (nI (n)), .int (v)] (Wd C e P Q m N R t Z) (.inl (some (.int (nI 0))), (Wd C e P Q m N R 0 Z)) := by
  refine eE.of ?_
  refine eR.step 2 (F' := (2, [(0, .ref 23), (1, .int (nI 2)), (2, .int (nI (n))), (3, .int (v))], [.int (nI 0), .ref 23])) (h' := (Wd C e P Q m N R t Z)) (fun _ _ => rfl) ?_
  refine eR.sim rfl (F := (5, [(0, .ref 23), (1, .int (nI 2)), (2, .int (nI (n))), (3, .int (v))], [])) (h' := (Wd C e P Q m N R 0 Z)) (by rfl) ?_
  refine eR.step 2 (F' := (7, [(0, .ref 23), (1, .int (nI 2)), (2, .int (nI (n))), (3, .int (v))], [.int (nI 1), .int (nI (n))])) (h' := (Wd C e P Q m N R 0 Z)) (fun _ _ => rfl) ?_
  refine eR.icmp rfl false ((nc_lt (by omega) (by omega)).trans (decide_eq_false (by omega))) ?_
  refine eR.step 2 (F' := (13, [(0, .ref 23), (1, .int (nI 2)), (2, .int (nI (n))), (3, .int (v))], [.int (nI 16), .int (nI (n))])) (h' := (Wd C e P Q m N R 0 Z)) (fun _ _ => rfl) ?_
  refine eR.icmp rfl false ((nc_ge (by omega) (by omega)).trans (decide_eq_false (by omega))) ?_
  refine eR.step 4 (F' := (24, [(0, .ref 23), (1, .int (nI 2)), (2, .int (nI (n))), (3, .int (v)), (4, .int (nI 1))], [.int (nI 2)])) (h' := (Wd C e P Q m N R 0 Z)) (fun _ _ => rfl) ?_
  refine eR.ifc rfl true rfl ?_
  refine eR.step 2 (F' := (34, [(0, .ref 23), (1, .int (nI 2)), (2, .int (nI (n))), (3, .int (v)), (4, .int (nI 1))], [.int (nI 1), .int (nI 2)])) (h' := (Wd C e P Q m N R 0 Z)) (fun _ _ => rfl) ?_
  refine eR.icmp rfl true rfl ?_
  refine eR.step 2 (F' := (51, [(0, .ref 23), (1, .int (nI 2)), (2, .int (nI (n))), (3, .int (v)), (4, .int (nI 1))], [.int (nI 2), .int (nI 2)])) (h' := (Wd C e P Q m N R 0 Z)) (fun _ _ => rfl) ?_
  refine eR.icmp rfl false rfl ?_
  refine eR.step 1 (F' := (56, [(0, .ref 23), (1, .int (nI 2)), (2, .int (nI (n))), (3, .int (v)), (4, .int (nI 1))], [.int (nI 1)])) (h' := (Wd C e P Q m N R 0 Z)) (fun _ _ => rfl) ?_
  refine eR.ifc rfl false rfl ?_
  refine eR.step 2 (F' := (62, [(0, .ref 23), (1, .int (nI 2)), (2, .int (nI (n))), (3, .int (v)), (4, .int (nI 1))], [.int (nI 1), .ref 23])) (h' := (Wd C e P Q m N R 0 Z)) (fun _ _ => rfl) ?_
  refine eR.ifc rfl false rfl ?_
  refine eR.step 2 (F' := (70, [(0, .ref 23), (1, .int (nI 2)), (2, .int (nI (n))), (3, .int (v)), (4, .int (nI 1))], [.int (nI (n)), .ref 23])) (h' := (Wd C e P Q m N R 0 Z)) (fun _ _ => rfl) ?_
  have h6 := he.1 (32 + (16 * n))
  refine eR.call (k' := 128) (as := [.ref 23, .int (nI (n))]) (rest := []) (v := some (.int (nI (e (32 + (16 * n)))))) (h1 := (Wd C e P Q m N R 0 Z)) rfl rfl rfl rfl (eg (Nat.le_of_ble_eq_true rfl) (show 21 ≤ lo by omega) (Nat.le_of_ble_eq_true rfl)) (m_kind (show 20 ≤ lo - 21 by omega) h.2) ?_
  refine eR.ifc rfl true ((nc_eq (b := 0) (by omega) (by decide)).trans (decide_eq_true (by omega))) ?_
  refine eR.step 3 (F' := (96, [(0, .ref 23), (1, .int (nI 2)), (2, .int (nI (n))), (3, .int (v)), (4, .int (nI 1)), (5, .int (nI 0))], [.int (nI 0)])) (h' := (Wd C e P Q m N R 0 Z)) (fun _ _ => rfl) ?_
  refine eR.ifc rfl false rfl ?_
  refine eR.step 1 (F' := (100, [(0, .ref 23), (1, .int (nI 2)), (2, .int (nI (n))), (3, .int (v)), (4, .int (nI 1)), (5, .int (nI 0))], [.int (nI 0)])) (h' := (Wd C e P Q m N R 0 Z)) (fun _ _ => rfl) ?_
  exact eR.ret rfl rfl rfl
theorem m_spoil2N2 {cm sm fr lo : Nat} {C : gC} {e : Nat → Nat} {P Q : gT} {m : Nat} {N : Nat → Nat} {R : gS} {t : Nat} {Z : mj_H} (hlo : 41 ≤ lo) (he : dk e) {n : Nat} (h : 1 ≤ n ∧ n < 16) (h1 : e (32 + (16 * n)) ≠ 0) {v : Int32} (hv : v < 0) : eE mm_P cm sm (fr + 3) lo 158 [.ref 23, .int (nI 2), .int (nI (n)), .int (v)] (Wd C e P Q m N R t Z) (.inl (some (.int (nI 0))), (Wd C e P Q m N R 0 Z)) := by
  refine eE.of ?_
  refine eR.step 2 (F' := (2, [(0, .ref 23), (1, .int (nI 2)), (2, .int (nI (n))), (3, .int (v))], [.int (nI 0), .ref 23])) (h' := (Wd C e P Q m N R t Z)) (fun _ _ => rfl) ?_
  refine eR.sim rfl (F := (5, [(0, .ref 23), (1, .int (nI 2)), (2, .int (nI (n))), (3, .int (v))], [])) (h' := (Wd C e P Q m N R 0 Z)) (by rfl) ?_
  refine eR.step 2 (F' := (7, [(0, .ref 23), (1, .int (nI 2)), (2, .int (nI (n))), (3, .int (v))], [.int (nI 1), .int (nI (n))])) (h' := (Wd C e P Q m N R 0 Z)) (fun _ _ => rfl) ?_
  refine eR.icmp rfl false ((nc_lt (by omega) (by omega)).trans (decide_eq_false (by omega))) ?_
  refine eR.step 2 (F' := (13, [(0, .ref 23), (1, .int (nI 2)), (2, .int (nI (n))), (3, .int (v))], [.int (nI 16), .int (nI (n))])) (h' := (Wd C e P Q m N R 0 Z)) (fun _ _ => rfl) ?_
  refine eR.icmp rfl false ((nc_ge (by omega) (by omega)).trans (decide_eq_false (by omega))) ?_
  refine eR.step 4 (F' := (24, [(0, .ref 23), (1, .int (nI 2)), (2, .int (nI (n))), (3, .int (v)), (4, .int (nI 1))], [.int (nI 2)])) (h' := (Wd C e P Q m N R 0 Z)) (fun _ _ => rfl) ?_
  refine eR.ifc rfl true rfl ?_
  refine eR.step 2 (F' := (34, [(0, .ref 23), (1, .int (nI 2)), (2, .int (nI (n))), (3, .int (v)), (4, .int (nI 1))], [.int (nI 1), .int (nI 2)])) (h' := (Wd C e P Q m N R 0 Z)) (fun _ _ => rfl) ?_
  refine eR.icmp rfl true rfl ?_
  refine eR.step 2 (F' := (51, [(0, .ref 23), (1, .int (nI 2)), (2, .int (nI (n))), (3, .int (v)), (4, .int (nI 1))], [.int (nI 2), .int (nI 2)])) (h' := (Wd C e P Q m N R 0 Z)) (fun _ _ => rfl) ?_
  refine eR.icmp rfl false rfl ?_
  refine eR.step 1 (F' := (56, [(0, .ref 23), (1, .int (nI 2)), (2, .int (nI (n))), (3, .int (v)), (4, .int (nI 1))], [.int (nI 1)])) (h' := (Wd C e P Q m N R 0 Z)) (fun _ _ => rfl) ?_
  refine eR.ifc rfl false rfl ?_
  refine eR.step 2 (F' := (62, [(0, .ref 23), (1, .int (nI 2)), (2, .int (nI (n))), (3, .int (v)), (4, .int (nI 1))], [.int (nI 1), .ref 23])) (h' := (Wd C e P Q m N R 0 Z)) (fun _ _ => rfl) ?_
  refine eR.ifc rfl false rfl ?_
  refine eR.step 2 (F' := (70, [(0, .ref 23), (1, .int (nI 2)), (2, .int (nI (n))), (3, .int (v)), (4, .int (nI 1))], [.int (nI (n)), .ref 23])) (h' := (Wd C e P Q m N R 0 Z)) (fun _ _ => rfl) ?_
  have h6 := he.1 (32 + (16 * n))
  refine eR.call (k' := 128) (as := [.ref 23, .int (nI (n))]) (rest := []) (v := some (.int (nI (e (32 + (16 * n)))))) (h1 := (Wd C e P Q m N R 0 Z)) rfl rfl rfl rfl (eg (Nat.le_of_ble_eq_true rfl) (show 21 ≤ lo by omega) (Nat.le_of_ble_eq_true rfl)) (m_kind (show 20 ≤ lo - 21 by omega) h.2) ?_
  refine eR.ifc rfl false ((nc_eq (b := 0) (by omega) (by decide)).trans (decide_eq_false (by omega))) ?_
  refine eR.step 1 (F' := (77, [(0, .ref 23), (1, .int (nI 2)), (2, .int (nI (n))), (3, .int (v)), (4, .int (nI 1))], [.int (v)])) (h' := (Wd C e P Q m N R 0 Z)) (fun _ _ => rfl) ?_
  refine eR.ifc rfl true (decide_eq_true hv) ?_
  refine eR.step 3 (F' := (96, [(0, .ref 23), (1, .int (nI 2)), (2, .int (nI (n))), (3, .int (v)), (4, .int (nI 1)), (5, .int (nI 0))], [.int (nI 0)])) (h' := (Wd C e P Q m N R 0 Z)) (fun _ _ => rfl) ?_
  refine eR.ifc rfl false rfl ?_
  refine eR.step 1 (F' := (100, [(0, .ref 23), (1, .int (nI 2)), (2, .int (nI (n))), (3, .int (v)), (4, .int (nI 1)), (5, .int (nI 0))], [.int (nI 0)])) (h' := (Wd C e P Q m N R 0 Z)) (fun _ _ => rfl) ?_
  exact eR.ret rfl rfl rfl
theorem m_spoil2N3 {cm sm fr lo : Nat} {C : gC} {e : Nat → Nat} {P Q : gT} {m : Nat} {N : Nat → Nat} {R : gS} {t : Nat} {Z : mj_H} (hlo : 41 ≤ lo) (he : dk e) {n : Nat} (h : 1 ≤ n ∧ n < 16) (h1 : e (32 + (16 * n)) ≠ 0) {w : Nat} (hw : w < 2 ^ 31) (h2 : 255 < w) : eE mm_P cm sm (fr + 3) lo 158 [.ref 23, .int (nI 2), .int (nI (n)), .int (nI (w))] (Wd C e P Q m N R t Z) (.inl (some (.int (nI 0))), (Wd C e P Q m N R 0 Z)) := by
  refine eE.of ?_
  refine eR.step 2 (F' := (2, [(0, .ref 23), (1, .int (nI 2)), (2, .int (nI (n))), (3, .int (nI (w)))], [.int (nI 0), .ref 23])) (h' := (Wd C e P Q m N R t Z)) (fun _ _ => rfl) ?_
  refine eR.sim rfl (F := (5, [(0, .ref 23), (1, .int (nI 2)), (2, .int (nI (n))), (3, .int (nI (w)))], [])) (h' := (Wd C e P Q m N R 0 Z)) (by rfl) ?_
  refine eR.step 2 (F' := (7, [(0, .ref 23), (1, .int (nI 2)), (2, .int (nI (n))), (3, .int (nI (w)))], [.int (nI 1), .int (nI (n))])) (h' := (Wd C e P Q m N R 0 Z)) (fun _ _ => rfl) ?_
  refine eR.icmp rfl false ((nc_lt (by omega) (by omega)).trans (decide_eq_false (by omega))) ?_
  refine eR.step 2 (F' := (13, [(0, .ref 23), (1, .int (nI 2)), (2, .int (nI (n))), (3, .int (nI (w)))], [.int (nI 16), .int (nI (n))])) (h' := (Wd C e P Q m N R 0 Z)) (fun _ _ => rfl) ?_
  refine eR.icmp rfl false ((nc_ge (by omega) (by omega)).trans (decide_eq_false (by omega))) ?_
  refine eR.step 4 (F' := (24, [(0, .ref 23), (1, .int (nI 2)), (2, .int (nI (n))), (3, .int (nI (w))), (4, .int (nI 1))], [.int (nI 2)])) (h' := (Wd C e P Q m N R 0 Z)) (fun _ _ => rfl) ?_
  refine eR.ifc rfl true rfl ?_
  refine eR.step 2 (F' := (34, [(0, .ref 23), (1, .int (nI 2)), (2, .int (nI (n))), (3, .int (nI (w))), (4, .int (nI 1))], [.int (nI 1), .int (nI 2)])) (h' := (Wd C e P Q m N R 0 Z)) (fun _ _ => rfl) ?_
  refine eR.icmp rfl true rfl ?_
  refine eR.step 2 (F' := (51, [(0, .ref 23), (1, .int (nI 2)), (2, .int (nI (n))), (3, .int (nI (w))), (4, .int (nI 1))], [.int (nI 2), .int (nI 2)])) (h' := (Wd C e P Q m N R 0 Z)) (fun _ _ => rfl) ?_
  refine eR.icmp rfl false rfl ?_
  refine eR.step 1 (F' := (56, [(0, .ref 23), (1, .int (nI 2)), (2, .int (nI (n))), (3, .int (nI (w))), (4, .int (nI 1))], [.int (nI 1)])) (h' := (Wd C e P Q m N R 0 Z)) (fun _ _ => rfl) ?_
  refine eR.ifc rfl false rfl ?_
  refine eR.step 2 (F' := (62, [(0, .ref 23), (1, .int (nI 2)), (2, .int (nI (n))), (3, .int (nI (w))), (4, .int (nI 1))], [.int (nI 1), .ref 23])) (h' := (Wd C e P Q m N R 0 Z)) (fun _ _ => rfl) ?_
  refine eR.ifc rfl false rfl ?_
  refine eR.step 2 (F' := (70, [(0, .ref 23), (1, .int (nI 2)), (2, .int (nI (n))), (3, .int (nI (w))), (4, .int (nI 1))], [.int (nI (n)), .ref 23])) (h' := (Wd C e P Q m N R 0 Z)) (fun _ _ => rfl) ?_
  have h6 := he.1 (32 + (16 * n))
  refine eR.call (k' := 128) (as := [.ref 23, .int (nI (n))]) (rest := []) (v := some (.int (nI (e (32 + (16 * n)))))) (h1 := (Wd C e P Q m N R 0 Z)) rfl rfl rfl rfl (eg (Nat.le_of_ble_eq_true rfl) (show 21 ≤ lo by omega) (Nat.le_of_ble_eq_true rfl)) (m_kind (show 20 ≤ lo - 21 by omega) h.2) ?_
  refine eR.ifc rfl false ((nc_eq (b := 0) (by omega) (by decide)).trans (decide_eq_false (by omega))) ?_
  refine eR.step 1 (F' := (77, [(0, .ref 23), (1, .int (nI 2)), (2, .int (nI (n))), (3, .int (nI (w))), (4, .int (nI 1))], [.int (nI (w))])) (h' := (Wd C e P Q m N R 0 Z)) (fun _ _ => rfl) ?_
  refine eR.ifc rfl false ((nc_lt (b := 0) (by omega) (by decide)).trans (decide_eq_false (by omega))) ?_
  refine eR.step 2 (F' := (84, [(0, .ref 23), (1, .int (nI 2)), (2, .int (nI (n))), (3, .int (nI (w))), (4, .int (nI 1))], [.int (nI 255), .int (nI (w))])) (h' := (Wd C e P Q m N R 0 Z)) (fun _ _ => rfl) ?_
  refine eR.icmp rfl true ((nc_gt (by omega) (by omega)).trans (decide_eq_true (by omega))) ?_
  refine eR.step 3 (F' := (96, [(0, .ref 23), (1, .int (nI 2)), (2, .int (nI (n))), (3, .int (nI (w))), (4, .int (nI 1)), (5, .int (nI 0))], [.int (nI 0)])) (h' := (Wd C e P Q m N R 0 Z)) (fun _ _ => rfl) ?_
  refine eR.ifc rfl false rfl ?_
  refine eR.step 1 (F' := (100, [(0, .ref 23), (1, .int (nI 2)), (2, .int (nI (n))), (3, .int (nI (w))), (4, .int (nI 1)), (5, .int (nI 0))], [.int (nI 0)])) (h' := (Wd C e P Q m N R 0 Z)) (fun _ _ => rfl) ?_
  exact eR.ret rfl rfl rfl
theorem m_spoil2 {cm sm fr lo : Nat} {C : gC} {e : Nat → Nat} {P Q : gT} {m : Nat} {N : Nat → Nat} {R : gS} {t : Nat} {Z : mj_H} (hlo : 41 ≤ lo) (he : dk e) {n : Nat} (h : 1 ≤ n ∧ n < 16) (h1 : e (32 + (16 * n)) ≠ 0) {w : Nat} (hw : w ≤ 255) : eE mm_P cm sm (fr + 3) lo 158 [.ref 23, .int (nI 2), .int (nI (n)), .int (nI (w))] (Wd C e P Q m N R t Z) (.inl (some (.int (nI 1))), (Wd C (dp (dp e (32 + (16 * n) + 1) w) 11 0) P Q m N R 0 Z)) := by
  refine eE.of ?_
  refine eR.step 2 (F' := (2, [(0, .ref 23), (1, .int (nI 2)), (2, .int (nI (n))), (3, .int (nI (w)))], [.int (nI 0), .ref 23])) (h' := (Wd C e P Q m N R t Z)) (fun _ _ => rfl) ?_
  refine eR.sim rfl (F := (5, [(0, .ref 23), (1, .int (nI 2)), (2, .int (nI (n))), (3, .int (nI (w)))], [])) (h' := (Wd C e P Q m N R 0 Z)) (by rfl) ?_
  refine eR.step 2 (F' := (7, [(0, .ref 23), (1, .int (nI 2)), (2, .int (nI (n))), (3, .int (nI (w)))], [.int (nI 1), .int (nI (n))])) (h' := (Wd C e P Q m N R 0 Z)) (fun _ _ => rfl) ?_
  refine eR.icmp rfl false ((nc_lt (by omega) (by omega)).trans (decide_eq_false (by omega))) ?_
  refine eR.step 2 (F' := (13, [(0, .ref 23), (1, .int (nI 2)), (2, .int (nI (n))), (3, .int (nI (w)))], [.int (nI 16), .int (nI (n))])) (h' := (Wd C e P Q m N R 0 Z)) (fun _ _ => rfl) ?_
  refine eR.icmp rfl false ((nc_ge (by omega) (by omega)).trans (decide_eq_false (by omega))) ?_
  refine eR.step 4 (F' := (24, [(0, .ref 23), (1, .int (nI 2)), (2, .int (nI (n))), (3, .int (nI (w))), (4, .int (nI 1))], [.int (nI 2)])) (h' := (Wd C e P Q m N R 0 Z)) (fun _ _ => rfl) ?_
  refine eR.ifc rfl true rfl ?_
  refine eR.step 2 (F' := (34, [(0, .ref 23), (1, .int (nI 2)), (2, .int (nI (n))), (3, .int (nI (w))), (4, .int (nI 1))], [.int (nI 1), .int (nI 2)])) (h' := (Wd C e P Q m N R 0 Z)) (fun _ _ => rfl) ?_
  refine eR.icmp rfl true rfl ?_
  refine eR.step 2 (F' := (51, [(0, .ref 23), (1, .int (nI 2)), (2, .int (nI (n))), (3, .int (nI (w))), (4, .int (nI 1))], [.int (nI 2), .int (nI 2)])) (h' := (Wd C e P Q m N R 0 Z)) (fun _ _ => rfl) ?_
  refine eR.icmp rfl false rfl ?_
  refine eR.step 1 (F' := (56, [(0, .ref 23), (1, .int (nI 2)), (2, .int (nI (n))), (3, .int (nI (w))), (4, .int (nI 1))], [.int (nI 1)])) (h' := (Wd C e P Q m N R 0 Z)) (fun _ _ => rfl) ?_
  refine eR.ifc rfl false rfl ?_
  refine eR.step 2 (F' := (62, [(0, .ref 23), (1, .int (nI 2)), (2, .int (nI (n))), (3, .int (nI (w))), (4, .int (nI 1))], [.int (nI 1), .ref 23])) (h' := (Wd C e P Q m N R 0 Z)) (fun _ _ => rfl) ?_
  refine eR.ifc rfl false rfl ?_
  refine eR.step 2 (F' := (70, [(0, .ref 23), (1, .int (nI 2)), (2, .int (nI (n))), (3, .int (nI (w))), (4, .int (nI 1))], [.int (nI (n)), .ref 23])) (h' := (Wd C e P Q m N R 0 Z)) (fun _ _ => rfl) ?_
  have h6 := he.1 (32 + (16 * n))
  refine eR.call (k' := 128) (as := [.ref 23, .int (nI (n))]) (rest := []) (v := some (.int (nI (e (32 + (16 * n)))))) (h1 := (Wd C e P Q m N R 0 Z)) rfl rfl rfl rfl (eg (Nat.le_of_ble_eq_true rfl) (show 21 ≤ lo by omega) (Nat.le_of_ble_eq_true rfl)) (m_kind (show 20 ≤ lo - 21 by omega) h.2) ?_
  refine eR.ifc rfl false ((nc_eq (b := 0) (by omega) (by decide)).trans (decide_eq_false (by omega))) ?_
  refine eR.step 1 (F' := (77, [(0, .ref 23), (1, .int (nI 2)), (2, .int (nI (n))), (3, .int (nI (w))), (4, .int (nI 1))], [.int (nI (w))])) (h' := (Wd C e P Q m N R 0 Z)) (fun _ _ => rfl) ?_
  refine eR.ifc rfl false ((nc_lt (b := 0) (by omega) (by decide)).trans (decide_eq_false (by omega))) ?_
  refine eR.step 2 (F' := (84, [(0, .ref 23), (1, .int (nI 2)), (2, .int (nI (n))), (3, .int (nI (w))), (4, .int (nI 1))], [.int (nI 255), .int (nI (w))])) (h' := (Wd C e P Q m N R 0 Z)) (fun _ _ => rfl) ?_
  refine eR.icmp rfl false ((nc_gt (by omega) (by omega)).trans (decide_eq_false (by omega))) ?_
  refine eR.step 4 (F' := (96, [(0, .ref 23), (1, .int (nI 2)), (2, .int (nI (n))), (3, .int (nI (w))), (4, .int (nI 1)), (5, .int (nI 1))], [.int (nI 1)])) (h' := (Wd C e P Q m N R 0 Z)) (fun _ _ => rfl) ?_
  refine eR.ifc rfl true rfl ?_
  refine eR.step 4 (F' := (108, [(0, .ref 23), (1, .int (nI 2)), (2, .int (nI (n))), (3, .int (nI (w))), (4, .int (nI 1)), (5, .int (nI 1))], [.int (nI 0), .int (nI 11), .ref 24])) (h' := (Wd C e P Q m N R 0 Z)) (fun _ _ => rfl) ?_
  refine eR.st24 rfl (by omega) (by decide) ?_
  refine eR.step 2 (F' := (111, [(0, .ref 23), (1, .int (nI 2)), (2, .int (nI (n))), (3, .int (nI (w))), (4, .int (nI 1)), (5, .int (nI 1))], [.int (nI 2), .int (nI 2)])) (h' := (Wd C (dp e (11) (0)) P Q m N R 0 Z)) (fun _ _ => rfl) ?_
  refine eR.icmp rfl false rfl ?_
  refine eR.step 3 (F' := (119, [(0, .ref 23), (1, .int (nI 2)), (2, .int (nI (n))), (3, .int (nI (w))), (4, .int (nI 1)), (5, .int (nI 1))], [.int (nI (n)), .ref 24])) (h' := (Wd C (dp e (11) (0)) P Q m N R 0 Z)) (fun _ _ => rfl) ?_
  refine eR.call (k' := 111) (as := [.int (nI (n))]) (rest := [.ref 24]) (v := some (.int (nI (32 + (16 * n))))) (h1 := (Wd C (dp e (11) (0)) P Q m N R 0 Z)) rfl rfl rfl rfl (eg (Nat.le_of_ble_eq_true rfl) (show 20 ≤ lo by omega) (Nat.le_of_ble_eq_true rfl)) (m_at (by omega)) ?_
  refine eR.step 1 (F' := (123, [(0, .ref 23), (1, .int (nI 2)), (2, .int (nI (n))), (3, .int (nI (w))), (4, .int (nI 1)), (5, .int (nI 1))], [.int (nI 1), .int (nI (32 + (16 * n))), .ref 24])) (h' := (Wd C (dp e (11) (0)) P Q m N R 0 Z)) (fun _ _ => rfl) ?_
  refine eR.nadd rfl ?_
  refine eR.step 1 (F' := (125, [(0, .ref 23), (1, .int (nI 2)), (2, .int (nI (n))), (3, .int (nI (w))), (4, .int (nI 1)), (5, .int (nI 1))], [.int (nI (w)), .int (nI ((32 + (16 * n)) + 1)), .ref 24])) (h' := (Wd C (dp e (11) (0)) P Q m N R 0 Z)) (fun _ _ => rfl) ?_
  refine eR.st24 rfl (by omega) (by omega) ?_
  rw [dp_11 _ _ _ (by omega)]
  refine eR.step 2 (F' := (163, [(0, .ref 23), (1, .int (nI 2)), (2, .int (nI (n))), (3, .int (nI (w))), (4, .int (nI 1)), (5, .int (nI 1))], [.int (nI 1)])) (h' := (Wd C (dp (dp e (32 + (16 * n) + 1) w) 11 0) P Q m N R 0 Z)) (fun _ _ => rfl) ?_
  exact eR.ret rfl rfl rfl
theorem m_spoil3 {cm sm fr lo : Nat} {C : gC} {e : Nat → Nat} {P Q : gT} {m : Nat} {N : Nat → Nat} {R : gS} {t : Nat} {Z : mj_H} (hlo : 41 ≤ lo) {x y v : Int32} (h0 : ¬ y = 0) (h1 : ¬ y = nI 1) (h2 : ¬ y = nI 2) : eE mm_P cm sm (fr + 3) lo 158 [.ref 23, .int (y), .int (x), .int (v)] (Wd C e P Q m N R t Z) (.inl (some (.int (nI 0))), (Wd C e P Q m N R 0 Z)) := by
  refine eE.of ?_
  refine eR.step 2 (F' := (2, [(0, .ref 23), (1, .int (y)), (2, .int (x)), (3, .int (v))], [.int (nI 0), .ref 23])) (h' := (Wd C e P Q m N R t Z)) (fun _ _ => rfl) ?_
  refine eR.sim rfl (F := (5, [(0, .ref 23), (1, .int (y)), (2, .int (x)), (3, .int (v))], [])) (h' := (Wd C e P Q m N R 0 Z)) (by rfl) ?_
  refine eR.step 2 (F' := (7, [(0, .ref 23), (1, .int (y)), (2, .int (x)), (3, .int (v))], [.int (nI 1), .int (x)])) (h' := (Wd C e P Q m N R 0 Z)) (fun _ _ => rfl) ?_
  by_cases c1 : mj_cmp .lt x (nI 1) = true
  · refine eR.icmp rfl true c1 ?_
    refine eR.step 3 (F' := (24, [(0, .ref 23), (1, .int (y)), (2, .int (x)), (3, .int (v)), (4, .int (nI 0))], [.int (y)])) (h' := (Wd C e P Q m N R 0 Z)) (fun _ _ => rfl) ?_
    refine eR.ifc rfl true (decide_eq_true h0) ?_
    refine eR.step 2 (F' := (34, [(0, .ref 23), (1, .int (y)), (2, .int (x)), (3, .int (v)), (4, .int (nI 0))], [.int (nI 1), .int (y)])) (h' := (Wd C e P Q m N R 0 Z)) (fun _ _ => rfl) ?_
    refine eR.icmp rfl true (decide_eq_true h1) ?_
    refine eR.step 2 (F' := (51, [(0, .ref 23), (1, .int (y)), (2, .int (x)), (3, .int (v)), (4, .int (nI 0))], [.int (nI 2), .int (y)])) (h' := (Wd C e P Q m N R 0 Z)) (fun _ _ => rfl) ?_
    refine eR.icmp rfl true (decide_eq_true h2) ?_
    refine eR.step 3 (F' := (96, [(0, .ref 23), (1, .int (y)), (2, .int (x)), (3, .int (v)), (4, .int (nI 0)), (5, .int (nI 0))], [.int (nI 0)])) (h' := (Wd C e P Q m N R 0 Z)) (fun _ _ => rfl) ?_
    refine eR.ifc rfl false rfl ?_
    refine eR.step 1 (F' := (100, [(0, .ref 23), (1, .int (y)), (2, .int (x)), (3, .int (v)), (4, .int (nI 0)), (5, .int (nI 0))], [.int (nI 0)])) (h' := (Wd C e P Q m N R 0 Z)) (fun _ _ => rfl) ?_
    exact eR.ret rfl rfl rfl
  · refine eR.icmp rfl false (Bool.eq_false_iff.mpr c1) ?_
    refine eR.step 2 (F' := (13, [(0, .ref 23), (1, .int (y)), (2, .int (x)), (3, .int (v))], [.int (nI 16), .int (x)])) (h' := (Wd C e P Q m N R 0 Z)) (fun _ _ => rfl) ?_
    by_cases c2 : mj_cmp .ge x (nI 16) = true
    · refine eR.icmp rfl true c2 ?_
      refine eR.step 3 (F' := (24, [(0, .ref 23), (1, .int (y)), (2, .int (x)), (3, .int (v)), (4, .int (nI 0))], [.int (y)])) (h' := (Wd C e P Q m N R 0 Z)) (fun _ _ => rfl) ?_
      refine eR.ifc rfl true (decide_eq_true h0) ?_
      refine eR.step 2 (F' := (34, [(0, .ref 23), (1, .int (y)), (2, .int (x)), (3, .int (v)), (4, .int (nI 0))], [.int (nI 1), .int (y)])) (h' := (Wd C e P Q m N R 0 Z)) (fun _ _ => rfl) ?_
      refine eR.icmp rfl true (decide_eq_true h1) ?_
      refine eR.step 2 (F' := (51, [(0, .ref 23), (1, .int (y)), (2, .int (x)), (3, .int (v)), (4, .int (nI 0))], [.int (nI 2), .int (y)])) (h' := (Wd C e P Q m N R 0 Z)) (fun _ _ => rfl) ?_
      refine eR.icmp rfl true (decide_eq_true h2) ?_
      refine eR.step 3 (F' := (96, [(0, .ref 23), (1, .int (y)), (2, .int (x)), (3, .int (v)), (4, .int (nI 0)), (5, .int (nI 0))], [.int (nI 0)])) (h' := (Wd C e P Q m N R 0 Z)) (fun _ _ => rfl) ?_
      refine eR.ifc rfl false rfl ?_
      refine eR.step 1 (F' := (100, [(0, .ref 23), (1, .int (y)), (2, .int (x)), (3, .int (v)), (4, .int (nI 0)), (5, .int (nI 0))], [.int (nI 0)])) (h' := (Wd C e P Q m N R 0 Z)) (fun _ _ => rfl) ?_
      exact eR.ret rfl rfl rfl
    · refine eR.icmp rfl false (Bool.eq_false_iff.mpr c2) ?_
      refine eR.step 4 (F' := (24, [(0, .ref 23), (1, .int (y)), (2, .int (x)), (3, .int (v)), (4, .int (nI 1))], [.int (y)])) (h' := (Wd C e P Q m N R 0 Z)) (fun _ _ => rfl) ?_
      refine eR.ifc rfl true (decide_eq_true h0) ?_
      refine eR.step 2 (F' := (34, [(0, .ref 23), (1, .int (y)), (2, .int (x)), (3, .int (v)), (4, .int (nI 1))], [.int (nI 1), .int (y)])) (h' := (Wd C e P Q m N R 0 Z)) (fun _ _ => rfl) ?_
      refine eR.icmp rfl true (decide_eq_true h1) ?_
      refine eR.step 2 (F' := (51, [(0, .ref 23), (1, .int (y)), (2, .int (x)), (3, .int (v)), (4, .int (nI 1))], [.int (nI 2), .int (y)])) (h' := (Wd C e P Q m N R 0 Z)) (fun _ _ => rfl) ?_
      refine eR.icmp rfl true (decide_eq_true h2) ?_
      refine eR.step 3 (F' := (96, [(0, .ref 23), (1, .int (y)), (2, .int (x)), (3, .int (v)), (4, .int (nI 1)), (5, .int (nI 0))], [.int (nI 0)])) (h' := (Wd C e P Q m N R 0 Z)) (fun _ _ => rfl) ?_
      refine eR.ifc rfl false rfl ?_
      refine eR.step 1 (F' := (100, [(0, .ref 23), (1, .int (y)), (2, .int (x)), (3, .int (v)), (4, .int (nI 1)), (5, .int (nI 0))], [.int (nI 0)])) (h' := (Wd C e P Q m N R 0 Z)) (fun _ _ => rfl) ?_
      exact eR.ret rfl rfl rfl
theorem m_statA {cm sm fr lo : Nat} {C : gC} {e : Nat → Nat} {P Q : gT} {m : Nat} {N : Nat → Nat} {R : gS} {t : Nat} {Z : mj_H} (hlo : 159 ≤ lo) (V : qV e) (hN : ∀ k, N k < 256) (ht : ∀ k, P.1 k < 65536) (hl : P.2 ≤ 40) {f m1 : Nat} {N1 : Nat → Nat} (hf0 : fo e P N = f) (hm0 : (pP P.1 P.2 N).2.1 = m1) (hN0 : (pP P.1 P.2 N).2.2 = N1) {x : Int32} (h : ¬ tf e f = 0) : eE mm_P cm sm (fr + 8) lo 157 [.ref 23, .int (x)] (Wd C e P Q m N R t Z) (.inl (some (.int (nI 0))), (Wd C e (P.1, 0) Q m1 N1 R (tf e f) Z)) := by
  refine eE.of ?_
  have htf := tf_le e f
  refine eR.step 2 (F' := (2, [(0, .ref 23), (1, .int (x))], [.int (nI 0), .ref 23])) (h' := (Wd C e P Q m N R t Z)) (fun _ _ => rfl) ?_
  refine eR.call (k' := 142) (as := [.ref 23, .int (nI 0)]) (rest := []) (v := some (.int (nI (fo e P N)))) (h1 := (Wd C e (P.1, 0) Q (pP P.1 P.2 N).2.1 (pP P.1 P.2 N).2.2 R (tf e (fo e P N)) Z)) rfl rfl rfl rfl (eg (Nat.le_of_ble_eq_true rfl) (show 23 ≤ lo by omega) (Nat.le_of_ble_eq_true rfl)) (m_found0 (show 136 ≤ lo - 23 by omega) V hN ht hl) ?_
  rw [hf0, hm0, hN0]
  refine eR.step 3 (F' := (8, [(0, .ref 23), (1, .int (x)), (2, .int (nI (f)))], [.int (x), .ref 23])) (h' := (Wd C e (P.1, 0) Q m1 N1 R (tf e f) Z)) (fun _ _ => rfl) ?_
  by_cases c1 : mj_cmp .lt x 0 = true
  · refine eR.ifc rfl true c1 ?_
    refine eR.step 3 (F' := (22, [(0, .ref 23), (1, .int (x)), (2, .int (nI (f)))], [.int (nI 3), .int (nI 1), .ref 23])) (h' := (Wd C e (P.1, 0) Q m1 N1 R (tf e f) Z)) (fun _ _ => rfl) ?_
    refine eR.call (k' := 136) (as := [.ref 23, .int (nI 1), .int (nI 3)]) (rest := []) (v := none) (h1 := (Wd C e (P.1, 0) Q m1 N1 R (ri true (tf e f) 3) Z)) rfl rfl rfl rfl (eg (Nat.le_of_ble_eq_true rfl) (show 22 ≤ lo by omega) (Nat.le_of_ble_eq_true rfl)) (m_refIf (b := true) (show 21 ≤ lo - 22 by omega) (by omega)) ?_
    rw [ri_n h]
    refine eR.step 2 (F' := (29, [(0, .ref 23), (1, .int (x)), (2, .int (nI (f)))], [.int (nI ((tf e f)))])) (h' := (Wd C e (P.1, 0) Q m1 N1 R (tf e f) Z)) (fun _ _ => rfl) ?_
    refine eR.ifc rfl false ((nc_eq (b := 0) (by omega) (by decide)).trans (decide_eq_false (by omega))) ?_
    refine eR.step 1 (F' := (33, [(0, .ref 23), (1, .int (x)), (2, .int (nI (f)))], [.int (nI 0)])) (h' := (Wd C e (P.1, 0) Q m1 N1 R (tf e f) Z)) (fun _ _ => rfl) ?_
    exact eR.ret rfl rfl rfl
  · refine eR.ifc rfl false (Bool.eq_false_iff.mpr c1) ?_
    refine eR.step 2 (F' := (13, [(0, .ref 23), (1, .int (x)), (2, .int (nI (f)))], [.int (nI 4), .int (x), .ref 23])) (h' := (Wd C e (P.1, 0) Q m1 N1 R (tf e f) Z)) (fun _ _ => rfl) ?_
    by_cases c2 : mj_cmp .le x (nI 4) = true
    · refine eR.icmp rfl true c2 ?_
      refine eR.step 2 (F' := (22, [(0, .ref 23), (1, .int (x)), (2, .int (nI (f)))], [.int (nI 3), .int (nI 0), .ref 23])) (h' := (Wd C e (P.1, 0) Q m1 N1 R (tf e f) Z)) (fun _ _ => rfl) ?_
      refine eR.call (k' := 136) (as := [.ref 23, .int (nI 0), .int (nI 3)]) (rest := []) (v := none) (h1 := (Wd C e (P.1, 0) Q m1 N1 R (ri false (tf e f) 3) Z)) rfl rfl rfl rfl (eg (Nat.le_of_ble_eq_true rfl) (show 22 ≤ lo by omega) (Nat.le_of_ble_eq_true rfl)) (m_refIf (b := false) (show 21 ≤ lo - 22 by omega) (by omega)) ?_
      rw [ri_n h]
      refine eR.step 2 (F' := (29, [(0, .ref 23), (1, .int (x)), (2, .int (nI (f)))], [.int (nI ((tf e f)))])) (h' := (Wd C e (P.1, 0) Q m1 N1 R (tf e f) Z)) (fun _ _ => rfl) ?_
      refine eR.ifc rfl false ((nc_eq (b := 0) (by omega) (by decide)).trans (decide_eq_false (by omega))) ?_
      refine eR.step 1 (F' := (33, [(0, .ref 23), (1, .int (x)), (2, .int (nI (f)))], [.int (nI 0)])) (h' := (Wd C e (P.1, 0) Q m1 N1 R (tf e f) Z)) (fun _ _ => rfl) ?_
      exact eR.ret rfl rfl rfl
    · refine eR.icmp rfl false (Bool.eq_false_iff.mpr c2) ?_
      refine eR.step 3 (F' := (22, [(0, .ref 23), (1, .int (x)), (2, .int (nI (f)))], [.int (nI 3), .int (nI 1), .ref 23])) (h' := (Wd C e (P.1, 0) Q m1 N1 R (tf e f) Z)) (fun _ _ => rfl) ?_
      refine eR.call (k' := 136) (as := [.ref 23, .int (nI 1), .int (nI 3)]) (rest := []) (v := none) (h1 := (Wd C e (P.1, 0) Q m1 N1 R (ri true (tf e f) 3) Z)) rfl rfl rfl rfl (eg (Nat.le_of_ble_eq_true rfl) (show 22 ≤ lo by omega) (Nat.le_of_ble_eq_true rfl)) (m_refIf (b := true) (show 21 ≤ lo - 22 by omega) (by omega)) ?_
      rw [ri_n h]
      refine eR.step 2 (F' := (29, [(0, .ref 23), (1, .int (x)), (2, .int (nI (f)))], [.int (nI ((tf e f)))])) (h' := (Wd C e (P.1, 0) Q m1 N1 R (tf e f) Z)) (fun _ _ => rfl) ?_
      refine eR.ifc rfl false ((nc_eq (b := 0) (by omega) (by decide)).trans (decide_eq_false (by omega))) ?_
      refine eR.step 1 (F' := (33, [(0, .ref 23), (1, .int (x)), (2, .int (nI (f)))], [.int (nI 0)])) (h' := (Wd C e (P.1, 0) Q m1 N1 R (tf e f) Z)) (fun _ _ => rfl) ?_
      exact eR.ret rfl rfl rfl
theorem m_statM {cm sm fr lo : Nat} {C : gC} {e : Nat → Nat} {P Q : gT} {m : Nat} {N : Nat → Nat} {R : gS} {t : Nat} {Z : mj_H} (hlo : 159 ≤ lo) (V : qV e) (hN : ∀ k, N k < 256) (ht : ∀ k, P.1 k < 65536) (hl : P.2 ≤ 40) {f m1 : Nat} {N1 : Nat → Nat} (hf0 : fo e P N = f) (hm0 : (pP P.1 P.2 N).2.1 = m1) (hN0 : (pP P.1 P.2 N).2.2 = N1) (h11 : e 11 = 1) (hfn : ¬ f = 0) (hf : f < 16) {x : Int32} (hx : x < 0) : eE mm_P cm sm (fr + 8) lo 157 [.ref 23, .int (x)] (Wd C e P Q m N R t Z) (.inl (some (.int (nI 0))), (Wd C e (P.1, 0) Q m1 N1 R 3 Z)) := by
  refine eE.of ?_
  have htf := tf_le e f
  refine eR.step 2 (F' := (2, [(0, .ref 23), (1, .int (x))], [.int (nI 0), .ref 23])) (h' := (Wd C e P Q m N R t Z)) (fun _ _ => rfl) ?_
  refine eR.call (k' := 142) (as := [.ref 23, .int (nI 0)]) (rest := []) (v := some (.int (nI (fo e P N)))) (h1 := (Wd C e (P.1, 0) Q (pP P.1 P.2 N).2.1 (pP P.1 P.2 N).2.2 R (tf e (fo e P N)) Z)) rfl rfl rfl rfl (eg (Nat.le_of_ble_eq_true rfl) (show 23 ≤ lo by omega) (Nat.le_of_ble_eq_true rfl)) (m_found0 (show 136 ≤ lo - 23 by omega) V hN ht hl) ?_
  rw [hf0, hm0, hN0]
  refine eR.step 3 (F' := (8, [(0, .ref 23), (1, .int (x)), (2, .int (nI (f)))], [.int (x), .ref 23])) (h' := (Wd C e (P.1, 0) Q m1 N1 R (tf e f) Z)) (fun _ _ => rfl) ?_
  rw [tf_0 h11 hfn]
  refine eR.ifc rfl true (decide_eq_true hx) ?_
  refine eR.step 3 (F' := (22, [(0, .ref 23), (1, .int (x)), (2, .int (nI (f)))], [.int (nI 3), .int (nI 1), .ref 23])) (h' := (Wd C e (P.1, 0) Q m1 N1 R 0 Z)) (fun _ _ => rfl) ?_
  refine eR.call (k' := 136) (as := [.ref 23, .int (nI 1), .int (nI 3)]) (rest := []) (v := none) (h1 := (Wd C e (P.1, 0) Q m1 N1 R (ri true 0 3) Z)) rfl rfl rfl rfl (eg (Nat.le_of_ble_eq_true rfl) (show 22 ≤ lo by omega) (Nat.le_of_ble_eq_true rfl)) (m_refIf (b := true) (show 21 ≤ lo - 22 by omega) (by decide)) ?_
  rw [show ri true 0 3 = 3 from rfl]
  refine eR.step 2 (F' := (29, [(0, .ref 23), (1, .int (x)), (2, .int (nI (f)))], [.int (nI 3)])) (h' := (Wd C e (P.1, 0) Q m1 N1 R 3 Z)) (fun _ _ => rfl) ?_
  refine eR.ifc rfl false ((nc_eq (b := 0) (by omega) (by decide)).trans (decide_eq_false (by omega))) ?_
  refine eR.step 1 (F' := (33, [(0, .ref 23), (1, .int (x)), (2, .int (nI (f)))], [.int (nI 0)])) (h' := (Wd C e (P.1, 0) Q m1 N1 R 3 Z)) (fun _ _ => rfl) ?_
  exact eR.ret rfl rfl rfl
theorem m_statB {cm sm fr lo : Nat} {C : gC} {e : Nat → Nat} {P Q : gT} {m : Nat} {N : Nat → Nat} {R : gS} {t : Nat} {Z : mj_H} (hlo : 159 ≤ lo) (V : qV e) (hN : ∀ k, N k < 256) (ht : ∀ k, P.1 k < 65536) (hl : P.2 ≤ 40) {f m1 : Nat} {N1 : Nat → Nat} (hf0 : fo e P N = f) (hm0 : (pP P.1 P.2 N).2.1 = m1) (hN0 : (pP P.1 P.2 N).2.2 = N1) (h11 : e 11 = 1) (hfn : ¬ f = 0) (hf : f < 16) {n : Nat} (hn : n < 2 ^ 31) (h : 4 < n) : eE mm_P cm sm (fr + 8) lo 157 [.ref 23, .int (nI (n))] (Wd C e P Q m N R t Z) (.inl (some (.int (nI 0))), (Wd C e (P.1, 0) Q m1 N1 R 3 Z)) := by
  refine eE.of ?_
  have htf := tf_le e f
  refine eR.step 2 (F' := (2, [(0, .ref 23), (1, .int (nI (n)))], [.int (nI 0), .ref 23])) (h' := (Wd C e P Q m N R t Z)) (fun _ _ => rfl) ?_
  refine eR.call (k' := 142) (as := [.ref 23, .int (nI 0)]) (rest := []) (v := some (.int (nI (fo e P N)))) (h1 := (Wd C e (P.1, 0) Q (pP P.1 P.2 N).2.1 (pP P.1 P.2 N).2.2 R (tf e (fo e P N)) Z)) rfl rfl rfl rfl (eg (Nat.le_of_ble_eq_true rfl) (show 23 ≤ lo by omega) (Nat.le_of_ble_eq_true rfl)) (m_found0 (show 136 ≤ lo - 23 by omega) V hN ht hl) ?_
  rw [hf0, hm0, hN0]
  refine eR.step 3 (F' := (8, [(0, .ref 23), (1, .int (nI (n))), (2, .int (nI (f)))], [.int (nI (n)), .ref 23])) (h' := (Wd C e (P.1, 0) Q m1 N1 R (tf e f) Z)) (fun _ _ => rfl) ?_
  rw [tf_0 h11 hfn]
  refine eR.ifc rfl false ((nc_lt (b := 0) (by omega) (by decide)).trans (decide_eq_false (by omega))) ?_
  refine eR.step 2 (F' := (13, [(0, .ref 23), (1, .int (nI (n))), (2, .int (nI (f)))], [.int (nI 4), .int (nI (n)), .ref 23])) (h' := (Wd C e (P.1, 0) Q m1 N1 R 0 Z)) (fun _ _ => rfl) ?_
  refine eR.icmp rfl false ((nc_le (by omega) (by omega)).trans (decide_eq_false (by omega))) ?_
  refine eR.step 3 (F' := (22, [(0, .ref 23), (1, .int (nI (n))), (2, .int (nI (f)))], [.int (nI 3), .int (nI 1), .ref 23])) (h' := (Wd C e (P.1, 0) Q m1 N1 R 0 Z)) (fun _ _ => rfl) ?_
  refine eR.call (k' := 136) (as := [.ref 23, .int (nI 1), .int (nI 3)]) (rest := []) (v := none) (h1 := (Wd C e (P.1, 0) Q m1 N1 R (ri true 0 3) Z)) rfl rfl rfl rfl (eg (Nat.le_of_ble_eq_true rfl) (show 22 ≤ lo by omega) (Nat.le_of_ble_eq_true rfl)) (m_refIf (b := true) (show 21 ≤ lo - 22 by omega) (by decide)) ?_
  rw [show ri true 0 3 = 3 from rfl]
  refine eR.step 2 (F' := (29, [(0, .ref 23), (1, .int (nI (n))), (2, .int (nI (f)))], [.int (nI 3)])) (h' := (Wd C e (P.1, 0) Q m1 N1 R 3 Z)) (fun _ _ => rfl) ?_
  refine eR.ifc rfl false ((nc_eq (b := 0) (by omega) (by decide)).trans (decide_eq_false (by omega))) ?_
  refine eR.step 1 (F' := (33, [(0, .ref 23), (1, .int (nI (n))), (2, .int (nI (f)))], [.int (nI 0)])) (h' := (Wd C e (P.1, 0) Q m1 N1 R 3 Z)) (fun _ _ => rfl) ?_
  exact eR.ret rfl rfl rfl
theorem l_pg {cm sm fr lo : Nat} {C : gC} {e : Nat → Nat} {P Q : gT} {m : Nat} {N : Nat → Nat} {R : gS} {t : Nat} {Z : mj_H} (hlo : 159 ≤ lo) (he : dk e) {f : Nat} (hf : f < 16) (hx6 : e (32 + (16 * f) + 10) < 64) {x : Int32} {r : mj_O × mj_H} : ∀ (q w c : Nat), w + q = 38 → c + q < 100 → eR mm_P cm sm (fr + 3) lo 157 (89, [(0, .ref 23), (1, .int (x)), (2, .int (nI (f))), (3, .int (nI (c + pg e f w q))), (4, .int (nI 38))], []) (Wd C e P Q m N R t Z) r → eR mm_P cm sm (fr + 3) lo 157 (58, [(0, .ref 23), (1, .int (x)), (2, .int (nI (f))), (3, .int (nI (c))), (4, .int (nI (w)))], []) (Wd C e P Q m N R t Z) r
  | 0, w, c, h1, h2, k => by
    have e0 : w = 38 := by omega
    subst e0
    refine eR.step 2 (F' := (62, [(0, .ref 23), (1, .int (x)), (2, .int (nI (f))), (3, .int (nI (c))), (4, .int (nI 38))], [.int (nI 38), .int (nI 38)])) (h' := (Wd C e P Q m N R t Z)) (fun _ _ => rfl) ?_
    refine eR.icmp rfl true ((nc_ge (by omega) (by omega)).trans (decide_eq_true (by omega))) ?_
    exact k
  | q + 1, w, c, h1, h2, k => by
    have h9 : bo e f w < 2 ^ 20 := Nat.lt_trans (bo_lt he f w) (by decide)
    refine eR.step 2 (F' := (62, [(0, .ref 23), (1, .int (x)), (2, .int (nI (f))), (3, .int (nI (c))), (4, .int (nI (w)))], [.int (nI 38), .int (nI (w))])) (h' := (Wd C e P Q m N R t Z)) (fun _ _ => rfl) ?_
    refine eR.icmp rfl false ((nc_ge (by omega) (by omega)).trans (decide_eq_false (by omega))) ?_
    refine eR.step 3 (F' := (69, [(0, .ref 23), (1, .int (x)), (2, .int (nI (f))), (3, .int (nI (c))), (4, .int (nI (w)))], [.int (nI (w)), .int (nI (f)), .ref 23])) (h' := (Wd C e P Q m N R t Z)) (fun _ _ => rfl) ?_
    refine eR.call (k' := 118) (as := [.ref 23, .int (nI (f)), .int (nI (w))]) (rest := []) (v := some (.int (nI (bo e f w)))) (h1 := (Wd C e P Q m N R t Z)) rfl rfl rfl rfl (eg (Nat.le_of_ble_eq_true rfl) (show 23 ≤ lo by omega) (Nat.le_of_ble_eq_true rfl)) (m_blk (show 43 ≤ lo - 23 by omega) hf (by omega) hx6) ?_
    rw [pg] at k
    by_cases h : bo e f w = 0
    · rw [if_pos h, Nat.zero_add] at k
      refine eR.ifc rfl true ((nc_eq (b := 0) (by omega) (by decide)).trans (decide_eq_true (by omega))) ?_
      refine eR.step 3 (F' := (86, [(0, .ref 23), (1, .int (x)), (2, .int (nI (f))), (3, .int (nI (c))), (4, .int (nI (w) + 1))], [])) (h' := (Wd C e P Q m N R t Z)) (fun _ _ => rfl) ?_
      rw [show nI (w) + 1 = nI (w + 1) from nI_add (w) 1]
      refine eR.step 1 (F' := (58, [(0, .ref 23), (1, .int (x)), (2, .int (nI (f))), (3, .int (nI (c))), (4, .int (nI (w + 1)))], [])) (h' := (Wd C e P Q m N R t Z)) (fun _ _ => rfl) ?_
      exact l_pg hlo he hf hx6 q (w + 1) c (by omega) (by omega) k
    · rw [if_neg h, ← Nat.add_assoc] at k
      refine eR.ifc rfl false ((nc_eq (b := 0) (by omega) (by decide)).trans (decide_eq_false (by omega))) ?_
      refine eR.step 2 (F' := (77, [(0, .ref 23), (1, .int (x)), (2, .int (nI (f))), (3, .int (nI (c))), (4, .int (nI (w)))], [.int (nI 1), .int (nI (c))])) (h' := (Wd C e P Q m N R t Z)) (fun _ _ => rfl) ?_
      refine eR.nadd rfl ?_
      refine eR.step 3 (F' := (86, [(0, .ref 23), (1, .int (x)), (2, .int (nI (f))), (3, .int (nI (c + 1))), (4, .int (nI (w) + 1))], [])) (h' := (Wd C e P Q m N R t Z)) (fun _ _ => rfl) ?_
      rw [show nI (w) + 1 = nI (w + 1) from nI_add (w) 1]
      refine eR.step 1 (F' := (58, [(0, .ref 23), (1, .int (x)), (2, .int (nI (f))), (3, .int (nI (c + 1))), (4, .int (nI (w + 1)))], [])) (h' := (Wd C e P Q m N R t Z)) (fun _ _ => rfl) ?_
      exact l_pg hlo he hf hx6 q (w + 1) (c + 1) (by omega) (by omega) k
theorem m_stat0 {cm sm fr lo : Nat} {C : gC} {e : Nat → Nat} {P Q : gT} {m : Nat} {N : Nat → Nat} {R : gS} {t : Nat} {Z : mj_H} (hlo : 159 ≤ lo) (V : qV e) (hN : ∀ k, N k < 256) (ht : ∀ k, P.1 k < 65536) (hl : P.2 ≤ 40) {f m1 : Nat} {N1 : Nat → Nat} (hf0 : fo e P N = f) (hm0 : (pP P.1 P.2 N).2.1 = m1) (hN0 : (pP P.1 P.2 N).2.2 = N1) (h11 : e 11 = 1) (hfn : ¬ f = 0) (hf : f < 16) (hx6 : e (32 + (16 * f) + 10) < 64)  : eE mm_P cm sm (fr + 8) lo 157 [.ref 23, .int (nI 0)] (Wd C e P Q m N R t Z) (.inl (some (.int (nI (f)))), (Wd C e (P.1, 0) Q m1 N1 R 0 Z)) := by
  refine eE.of ?_
  have htf := tf_le e f
  refine eR.step 2 (F' := (2, [(0, .ref 23), (1, .int (nI 0))], [.int (nI 0), .ref 23])) (h' := (Wd C e P Q m N R t Z)) (fun _ _ => rfl) ?_
  refine eR.call (k' := 142) (as := [.ref 23, .int (nI 0)]) (rest := []) (v := some (.int (nI (fo e P N)))) (h1 := (Wd C e (P.1, 0) Q (pP P.1 P.2 N).2.1 (pP P.1 P.2 N).2.2 R (tf e (fo e P N)) Z)) rfl rfl rfl rfl (eg (Nat.le_of_ble_eq_true rfl) (show 23 ≤ lo by omega) (Nat.le_of_ble_eq_true rfl)) (m_found0 (show 136 ≤ lo - 23 by omega) V hN ht hl) ?_
  rw [hf0, hm0, hN0]
  refine eR.step 3 (F' := (8, [(0, .ref 23), (1, .int (nI 0)), (2, .int (nI (f)))], [.int (nI 0), .ref 23])) (h' := (Wd C e (P.1, 0) Q m1 N1 R (tf e f) Z)) (fun _ _ => rfl) ?_
  rw [tf_0 h11 hfn]
  refine eR.ifc rfl false rfl ?_
  refine eR.step 2 (F' := (13, [(0, .ref 23), (1, .int (nI 0)), (2, .int (nI (f)))], [.int (nI 4), .int (nI 0), .ref 23])) (h' := (Wd C e (P.1, 0) Q m1 N1 R 0 Z)) (fun _ _ => rfl) ?_
  refine eR.icmp rfl true rfl ?_
  refine eR.step 2 (F' := (22, [(0, .ref 23), (1, .int (nI 0)), (2, .int (nI (f)))], [.int (nI 3), .int (nI 0), .ref 23])) (h' := (Wd C e (P.1, 0) Q m1 N1 R 0 Z)) (fun _ _ => rfl) ?_
  refine eR.call (k' := 136) (as := [.ref 23, .int (nI 0), .int (nI 3)]) (rest := []) (v := none) (h1 := (Wd C e (P.1, 0) Q m1 N1 R (ri false 0 3) Z)) rfl rfl rfl rfl (eg (Nat.le_of_ble_eq_true rfl) (show 22 ≤ lo by omega) (Nat.le_of_ble_eq_true rfl)) (m_refIf (b := false) (show 21 ≤ lo - 22 by omega) (by decide)) ?_
  rw [show ri false 0 3 = 0 from rfl]
  refine eR.step 2 (F' := (29, [(0, .ref 23), (1, .int (nI 0)), (2, .int (nI (f)))], [.int (nI 0)])) (h' := (Wd C e (P.1, 0) Q m1 N1 R 0 Z)) (fun _ _ => rfl) ?_
  refine eR.ifc rfl true ((nc_eq (b := 0) (by omega) (by decide)).trans (decide_eq_true (by omega))) ?_
  refine eR.step 3 (F' := (39, [(0, .ref 23), (1, .int (nI 0)), (2, .int (nI (f)))], [.int (nI (f)), .ref 24])) (h' := (Wd C e (P.1, 0) Q m1 N1 R 0 Z)) (fun _ _ => rfl) ?_
  refine eR.call (k' := 111) (as := [.int (nI (f))]) (rest := [.ref 24]) (v := some (.int (nI (32 + (16 * f))))) (h1 := (Wd C e (P.1, 0) Q m1 N1 R 0 Z)) rfl rfl rfl rfl (eg (Nat.le_of_ble_eq_true rfl) (show 20 ≤ lo by omega) (Nat.le_of_ble_eq_true rfl)) (m_at (by omega)) ?_
  refine eR.step 1 (F' := (44, [(0, .ref 23), (1, .int (nI 0)), (2, .int (nI (f)))], [.int (nI 10), .int (nI (32 + (16 * f))), .ref 24])) (h' := (Wd C e (P.1, 0) Q m1 N1 R 0 Z)) (fun _ _ => rfl) ?_
  refine eR.nadd rfl ?_
  refine eR.ld24 rfl (by omega) ?_
  by_cases h : e (32 + (16 * f) + 10) = 0
  · refine eR.ifc rfl true ((nc_eq (b := 0) (by omega) (by decide)).trans (decide_eq_true (by omega))) ?_
    refine eR.step 4 (F' := (58, [(0, .ref 23), (1, .int (nI 0)), (2, .int (nI (f))), (3, .int (nI 0)), (4, .int (nI 0))], [])) (h' := (Wd C e (P.1, 0) Q m1 N1 R 0 Z)) (fun _ _ => rfl) ?_
    refine l_pg (show 159 ≤ lo by omega) V.B.dk hf hx6 38 0 0 (by omega) (by omega) ?_
    refine eR.step 1 (F' := (90, [(0, .ref 23), (1, .int (nI 0)), (2, .int (nI (f))), (3, .int (nI (0 + pg e f 0 38))), (4, .int (nI 38))], [.int (nI 0)])) (h' := (Wd C e (P.1, 0) Q m1 N1 R 0 Z)) (fun _ _ => rfl) ?_
    refine eR.ifc rfl false rfl ?_
    refine eR.step 2 (F' := (143, [(0, .ref 23), (1, .int (nI 0)), (2, .int (nI (f))), (3, .int (nI (0 + pg e f 0 38))), (4, .int (nI 38))], [.int (nI (f))])) (h' := (Wd C e (P.1, 0) Q m1 N1 R 0 Z)) (fun _ _ => rfl) ?_
    exact eR.ret rfl rfl rfl
  · refine eR.ifc rfl false ((nc_eq (b := 0) (by omega) (by decide)).trans (decide_eq_false (by omega))) ?_
    refine eR.step 5 (F' := (58, [(0, .ref 23), (1, .int (nI 0)), (2, .int (nI (f))), (3, .int (nI 1)), (4, .int (nI 0))], [])) (h' := (Wd C e (P.1, 0) Q m1 N1 R 0 Z)) (fun _ _ => rfl) ?_
    refine l_pg (show 159 ≤ lo by omega) V.B.dk hf hx6 38 0 1 (by omega) (by omega) ?_
    refine eR.step 1 (F' := (90, [(0, .ref 23), (1, .int (nI 0)), (2, .int (nI (f))), (3, .int (nI (1 + pg e f 0 38))), (4, .int (nI 38))], [.int (nI 0)])) (h' := (Wd C e (P.1, 0) Q m1 N1 R 0 Z)) (fun _ _ => rfl) ?_
    refine eR.ifc rfl false rfl ?_
    refine eR.step 2 (F' := (143, [(0, .ref 23), (1, .int (nI 0)), (2, .int (nI (f))), (3, .int (nI (1 + pg e f 0 38))), (4, .int (nI 38))], [.int (nI (f))])) (h' := (Wd C e (P.1, 0) Q m1 N1 R 0 Z)) (fun _ _ => rfl) ?_
    exact eR.ret rfl rfl rfl
theorem m_stat1 {cm sm fr lo : Nat} {C : gC} {e : Nat → Nat} {P Q : gT} {m : Nat} {N : Nat → Nat} {R : gS} {t : Nat} {Z : mj_H} (hlo : 159 ≤ lo) (V : qV e) (hN : ∀ k, N k < 256) (ht : ∀ k, P.1 k < 65536) (hl : P.2 ≤ 40) {f m1 : Nat} {N1 : Nat → Nat} (hf0 : fo e P N = f) (hm0 : (pP P.1 P.2 N).2.1 = m1) (hN0 : (pP P.1 P.2 N).2.2 = N1) (h11 : e 11 = 1) (hfn : ¬ f = 0) (hf : f < 16) (hx6 : e (32 + (16 * f) + 10) < 64)  : eE mm_P cm sm (fr + 8) lo 157 [.ref 23, .int (nI 1)] (Wd C e P Q m N R t Z) (.inl (some (.int (nI (e (32 + (16 * f)))))), (Wd C e (P.1, 0) Q m1 N1 R 0 Z)) := by
  refine eE.of ?_
  have htf := tf_le e f
  refine eR.step 2 (F' := (2, [(0, .ref 23), (1, .int (nI 1))], [.int (nI 0), .ref 23])) (h' := (Wd C e P Q m N R t Z)) (fun _ _ => rfl) ?_
  refine eR.call (k' := 142) (as := [.ref 23, .int (nI 0)]) (rest := []) (v := some (.int (nI (fo e P N)))) (h1 := (Wd C e (P.1, 0) Q (pP P.1 P.2 N).2.1 (pP P.1 P.2 N).2.2 R (tf e (fo e P N)) Z)) rfl rfl rfl rfl (eg (Nat.le_of_ble_eq_true rfl) (show 23 ≤ lo by omega) (Nat.le_of_ble_eq_true rfl)) (m_found0 (show 136 ≤ lo - 23 by omega) V hN ht hl) ?_
  rw [hf0, hm0, hN0]
  refine eR.step 3 (F' := (8, [(0, .ref 23), (1, .int (nI 1)), (2, .int (nI (f)))], [.int (nI 1), .ref 23])) (h' := (Wd C e (P.1, 0) Q m1 N1 R (tf e f) Z)) (fun _ _ => rfl) ?_
  rw [tf_0 h11 hfn]
  refine eR.ifc rfl false rfl ?_
  refine eR.step 2 (F' := (13, [(0, .ref 23), (1, .int (nI 1)), (2, .int (nI (f)))], [.int (nI 4), .int (nI 1), .ref 23])) (h' := (Wd C e (P.1, 0) Q m1 N1 R 0 Z)) (fun _ _ => rfl) ?_
  refine eR.icmp rfl true rfl ?_
  refine eR.step 2 (F' := (22, [(0, .ref 23), (1, .int (nI 1)), (2, .int (nI (f)))], [.int (nI 3), .int (nI 0), .ref 23])) (h' := (Wd C e (P.1, 0) Q m1 N1 R 0 Z)) (fun _ _ => rfl) ?_
  refine eR.call (k' := 136) (as := [.ref 23, .int (nI 0), .int (nI 3)]) (rest := []) (v := none) (h1 := (Wd C e (P.1, 0) Q m1 N1 R (ri false 0 3) Z)) rfl rfl rfl rfl (eg (Nat.le_of_ble_eq_true rfl) (show 22 ≤ lo by omega) (Nat.le_of_ble_eq_true rfl)) (m_refIf (b := false) (show 21 ≤ lo - 22 by omega) (by decide)) ?_
  rw [show ri false 0 3 = 0 from rfl]
  refine eR.step 2 (F' := (29, [(0, .ref 23), (1, .int (nI 1)), (2, .int (nI (f)))], [.int (nI 0)])) (h' := (Wd C e (P.1, 0) Q m1 N1 R 0 Z)) (fun _ _ => rfl) ?_
  refine eR.ifc rfl true ((nc_eq (b := 0) (by omega) (by decide)).trans (decide_eq_true (by omega))) ?_
  refine eR.step 3 (F' := (39, [(0, .ref 23), (1, .int (nI 1)), (2, .int (nI (f)))], [.int (nI (f)), .ref 24])) (h' := (Wd C e (P.1, 0) Q m1 N1 R 0 Z)) (fun _ _ => rfl) ?_
  refine eR.call (k' := 111) (as := [.int (nI (f))]) (rest := [.ref 24]) (v := some (.int (nI (32 + (16 * f))))) (h1 := (Wd C e (P.1, 0) Q m1 N1 R 0 Z)) rfl rfl rfl rfl (eg (Nat.le_of_ble_eq_true rfl) (show 20 ≤ lo by omega) (Nat.le_of_ble_eq_true rfl)) (m_at (by omega)) ?_
  refine eR.step 1 (F' := (44, [(0, .ref 23), (1, .int (nI 1)), (2, .int (nI (f)))], [.int (nI 10), .int (nI (32 + (16 * f))), .ref 24])) (h' := (Wd C e (P.1, 0) Q m1 N1 R 0 Z)) (fun _ _ => rfl) ?_
  refine eR.nadd rfl ?_
  refine eR.ld24 rfl (by omega) ?_
  by_cases h : e (32 + (16 * f) + 10) = 0
  · refine eR.ifc rfl true ((nc_eq (b := 0) (by omega) (by decide)).trans (decide_eq_true (by omega))) ?_
    refine eR.step 4 (F' := (58, [(0, .ref 23), (1, .int (nI 1)), (2, .int (nI (f))), (3, .int (nI 0)), (4, .int (nI 0))], [])) (h' := (Wd C e (P.1, 0) Q m1 N1 R 0 Z)) (fun _ _ => rfl) ?_
    refine l_pg (show 159 ≤ lo by omega) V.B.dk hf hx6 38 0 0 (by omega) (by omega) ?_
    refine eR.step 1 (F' := (90, [(0, .ref 23), (1, .int (nI 1)), (2, .int (nI (f))), (3, .int (nI (0 + pg e f 0 38))), (4, .int (nI 38))], [.int (nI 1)])) (h' := (Wd C e (P.1, 0) Q m1 N1 R 0 Z)) (fun _ _ => rfl) ?_
    refine eR.ifc rfl true rfl ?_
    refine eR.step 2 (F' := (99, [(0, .ref 23), (1, .int (nI 1)), (2, .int (nI (f))), (3, .int (nI (0 + pg e f 0 38))), (4, .int (nI 38))], [.int (nI 1), .int (nI 1)])) (h' := (Wd C e (P.1, 0) Q m1 N1 R 0 Z)) (fun _ _ => rfl) ?_
    refine eR.icmp rfl false rfl ?_
    refine eR.step 2 (F' := (104, [(0, .ref 23), (1, .int (nI 1)), (2, .int (nI (f))), (3, .int (nI (0 + pg e f 0 38))), (4, .int (nI 38))], [.int (nI (f)), .ref 23])) (h' := (Wd C e (P.1, 0) Q m1 N1 R 0 Z)) (fun _ _ => rfl) ?_
    refine eR.call (k' := 128) (as := [.ref 23, .int (nI (f))]) (rest := []) (v := some (.int (nI (e (32 + (16 * f)))))) (h1 := (Wd C e (P.1, 0) Q m1 N1 R 0 Z)) rfl rfl rfl rfl (eg (Nat.le_of_ble_eq_true rfl) (show 21 ≤ lo by omega) (Nat.le_of_ble_eq_true rfl)) (m_kind (show 20 ≤ lo - 21 by omega) hf) ?_
    refine eR.step 1 (F' := (143, [(0, .ref 23), (1, .int (nI 1)), (2, .int (nI (f))), (3, .int (nI (0 + pg e f 0 38))), (4, .int (nI 38))], [.int (nI (e (32 + (16 * f))))])) (h' := (Wd C e (P.1, 0) Q m1 N1 R 0 Z)) (fun _ _ => rfl) ?_
    exact eR.ret rfl rfl rfl
  · refine eR.ifc rfl false ((nc_eq (b := 0) (by omega) (by decide)).trans (decide_eq_false (by omega))) ?_
    refine eR.step 5 (F' := (58, [(0, .ref 23), (1, .int (nI 1)), (2, .int (nI (f))), (3, .int (nI 1)), (4, .int (nI 0))], [])) (h' := (Wd C e (P.1, 0) Q m1 N1 R 0 Z)) (fun _ _ => rfl) ?_
    refine l_pg (show 159 ≤ lo by omega) V.B.dk hf hx6 38 0 1 (by omega) (by omega) ?_
    refine eR.step 1 (F' := (90, [(0, .ref 23), (1, .int (nI 1)), (2, .int (nI (f))), (3, .int (nI (1 + pg e f 0 38))), (4, .int (nI 38))], [.int (nI 1)])) (h' := (Wd C e (P.1, 0) Q m1 N1 R 0 Z)) (fun _ _ => rfl) ?_
    refine eR.ifc rfl true rfl ?_
    refine eR.step 2 (F' := (99, [(0, .ref 23), (1, .int (nI 1)), (2, .int (nI (f))), (3, .int (nI (1 + pg e f 0 38))), (4, .int (nI 38))], [.int (nI 1), .int (nI 1)])) (h' := (Wd C e (P.1, 0) Q m1 N1 R 0 Z)) (fun _ _ => rfl) ?_
    refine eR.icmp rfl false rfl ?_
    refine eR.step 2 (F' := (104, [(0, .ref 23), (1, .int (nI 1)), (2, .int (nI (f))), (3, .int (nI (1 + pg e f 0 38))), (4, .int (nI 38))], [.int (nI (f)), .ref 23])) (h' := (Wd C e (P.1, 0) Q m1 N1 R 0 Z)) (fun _ _ => rfl) ?_
    refine eR.call (k' := 128) (as := [.ref 23, .int (nI (f))]) (rest := []) (v := some (.int (nI (e (32 + (16 * f)))))) (h1 := (Wd C e (P.1, 0) Q m1 N1 R 0 Z)) rfl rfl rfl rfl (eg (Nat.le_of_ble_eq_true rfl) (show 21 ≤ lo by omega) (Nat.le_of_ble_eq_true rfl)) (m_kind (show 20 ≤ lo - 21 by omega) hf) ?_
    refine eR.step 1 (F' := (143, [(0, .ref 23), (1, .int (nI 1)), (2, .int (nI (f))), (3, .int (nI (1 + pg e f 0 38))), (4, .int (nI 38))], [.int (nI (e (32 + (16 * f))))])) (h' := (Wd C e (P.1, 0) Q m1 N1 R 0 Z)) (fun _ _ => rfl) ?_
    exact eR.ret rfl rfl rfl
theorem m_stat2 {cm sm fr lo : Nat} {C : gC} {e : Nat → Nat} {P Q : gT} {m : Nat} {N : Nat → Nat} {R : gS} {t : Nat} {Z : mj_H} (hlo : 159 ≤ lo) (V : qV e) (hN : ∀ k, N k < 256) (ht : ∀ k, P.1 k < 65536) (hl : P.2 ≤ 40) {f m1 : Nat} {N1 : Nat → Nat} (hf0 : fo e P N = f) (hm0 : (pP P.1 P.2 N).2.1 = m1) (hN0 : (pP P.1 P.2 N).2.2 = N1) (h11 : e 11 = 1) (hfn : ¬ f = 0) (hf : f < 16) (hx6 : e (32 + (16 * f) + 10) < 64)  : eE mm_P cm sm (fr + 8) lo 157 [.ref 23, .int (nI 2)] (Wd C e P Q m N R t Z) (.inl (some (.int (nI (e (32 + (16 * f) + 1))))), (Wd C e (P.1, 0) Q m1 N1 R 0 Z)) := by
  refine eE.of ?_
  have htf := tf_le e f
  refine eR.step 2 (F' := (2, [(0, .ref 23), (1, .int (nI 2))], [.int (nI 0), .ref 23])) (h' := (Wd C e P Q m N R t Z)) (fun _ _ => rfl) ?_
  refine eR.call (k' := 142) (as := [.ref 23, .int (nI 0)]) (rest := []) (v := some (.int (nI (fo e P N)))) (h1 := (Wd C e (P.1, 0) Q (pP P.1 P.2 N).2.1 (pP P.1 P.2 N).2.2 R (tf e (fo e P N)) Z)) rfl rfl rfl rfl (eg (Nat.le_of_ble_eq_true rfl) (show 23 ≤ lo by omega) (Nat.le_of_ble_eq_true rfl)) (m_found0 (show 136 ≤ lo - 23 by omega) V hN ht hl) ?_
  rw [hf0, hm0, hN0]
  refine eR.step 3 (F' := (8, [(0, .ref 23), (1, .int (nI 2)), (2, .int (nI (f)))], [.int (nI 2), .ref 23])) (h' := (Wd C e (P.1, 0) Q m1 N1 R (tf e f) Z)) (fun _ _ => rfl) ?_
  rw [tf_0 h11 hfn]
  refine eR.ifc rfl false rfl ?_
  refine eR.step 2 (F' := (13, [(0, .ref 23), (1, .int (nI 2)), (2, .int (nI (f)))], [.int (nI 4), .int (nI 2), .ref 23])) (h' := (Wd C e (P.1, 0) Q m1 N1 R 0 Z)) (fun _ _ => rfl) ?_
  refine eR.icmp rfl true rfl ?_
  refine eR.step 2 (F' := (22, [(0, .ref 23), (1, .int (nI 2)), (2, .int (nI (f)))], [.int (nI 3), .int (nI 0), .ref 23])) (h' := (Wd C e (P.1, 0) Q m1 N1 R 0 Z)) (fun _ _ => rfl) ?_
  refine eR.call (k' := 136) (as := [.ref 23, .int (nI 0), .int (nI 3)]) (rest := []) (v := none) (h1 := (Wd C e (P.1, 0) Q m1 N1 R (ri false 0 3) Z)) rfl rfl rfl rfl (eg (Nat.le_of_ble_eq_true rfl) (show 22 ≤ lo by omega) (Nat.le_of_ble_eq_true rfl)) (m_refIf (b := false) (show 21 ≤ lo - 22 by omega) (by decide)) ?_
  rw [show ri false 0 3 = 0 from rfl]
  refine eR.step 2 (F' := (29, [(0, .ref 23), (1, .int (nI 2)), (2, .int (nI (f)))], [.int (nI 0)])) (h' := (Wd C e (P.1, 0) Q m1 N1 R 0 Z)) (fun _ _ => rfl) ?_
  refine eR.ifc rfl true ((nc_eq (b := 0) (by omega) (by decide)).trans (decide_eq_true (by omega))) ?_
  refine eR.step 3 (F' := (39, [(0, .ref 23), (1, .int (nI 2)), (2, .int (nI (f)))], [.int (nI (f)), .ref 24])) (h' := (Wd C e (P.1, 0) Q m1 N1 R 0 Z)) (fun _ _ => rfl) ?_
  refine eR.call (k' := 111) (as := [.int (nI (f))]) (rest := [.ref 24]) (v := some (.int (nI (32 + (16 * f))))) (h1 := (Wd C e (P.1, 0) Q m1 N1 R 0 Z)) rfl rfl rfl rfl (eg (Nat.le_of_ble_eq_true rfl) (show 20 ≤ lo by omega) (Nat.le_of_ble_eq_true rfl)) (m_at (by omega)) ?_
  refine eR.step 1 (F' := (44, [(0, .ref 23), (1, .int (nI 2)), (2, .int (nI (f)))], [.int (nI 10), .int (nI (32 + (16 * f))), .ref 24])) (h' := (Wd C e (P.1, 0) Q m1 N1 R 0 Z)) (fun _ _ => rfl) ?_
  refine eR.nadd rfl ?_
  refine eR.ld24 rfl (by omega) ?_
  by_cases h : e (32 + (16 * f) + 10) = 0
  · refine eR.ifc rfl true ((nc_eq (b := 0) (by omega) (by decide)).trans (decide_eq_true (by omega))) ?_
    refine eR.step 4 (F' := (58, [(0, .ref 23), (1, .int (nI 2)), (2, .int (nI (f))), (3, .int (nI 0)), (4, .int (nI 0))], [])) (h' := (Wd C e (P.1, 0) Q m1 N1 R 0 Z)) (fun _ _ => rfl) ?_
    refine l_pg (show 159 ≤ lo by omega) V.B.dk hf hx6 38 0 0 (by omega) (by omega) ?_
    refine eR.step 1 (F' := (90, [(0, .ref 23), (1, .int (nI 2)), (2, .int (nI (f))), (3, .int (nI (0 + pg e f 0 38))), (4, .int (nI 38))], [.int (nI 2)])) (h' := (Wd C e (P.1, 0) Q m1 N1 R 0 Z)) (fun _ _ => rfl) ?_
    refine eR.ifc rfl true rfl ?_
    refine eR.step 2 (F' := (99, [(0, .ref 23), (1, .int (nI 2)), (2, .int (nI (f))), (3, .int (nI (0 + pg e f 0 38))), (4, .int (nI 38))], [.int (nI 1), .int (nI 2)])) (h' := (Wd C e (P.1, 0) Q m1 N1 R 0 Z)) (fun _ _ => rfl) ?_
    refine eR.icmp rfl true rfl ?_
    refine eR.step 2 (F' := (112, [(0, .ref 23), (1, .int (nI 2)), (2, .int (nI (f))), (3, .int (nI (0 + pg e f 0 38))), (4, .int (nI 38))], [.int (nI 2), .int (nI 2)])) (h' := (Wd C e (P.1, 0) Q m1 N1 R 0 Z)) (fun _ _ => rfl) ?_
    refine eR.icmp rfl false rfl ?_
    refine eR.step 3 (F' := (120, [(0, .ref 23), (1, .int (nI 2)), (2, .int (nI (f))), (3, .int (nI (0 + pg e f 0 38))), (4, .int (nI 38))], [.int (nI (f)), .ref 24])) (h' := (Wd C e (P.1, 0) Q m1 N1 R 0 Z)) (fun _ _ => rfl) ?_
    refine eR.call (k' := 111) (as := [.int (nI (f))]) (rest := [.ref 24]) (v := some (.int (nI (32 + (16 * f))))) (h1 := (Wd C e (P.1, 0) Q m1 N1 R 0 Z)) rfl rfl rfl rfl (eg (Nat.le_of_ble_eq_true rfl) (show 20 ≤ lo by omega) (Nat.le_of_ble_eq_true rfl)) (m_at (by omega)) ?_
    refine eR.step 1 (F' := (124, [(0, .ref 23), (1, .int (nI 2)), (2, .int (nI (f))), (3, .int (nI (0 + pg e f 0 38))), (4, .int (nI 38))], [.int (nI 1), .int (nI (32 + (16 * f))), .ref 24])) (h' := (Wd C e (P.1, 0) Q m1 N1 R 0 Z)) (fun _ _ => rfl) ?_
    refine eR.nadd rfl ?_
    refine eR.ld24 rfl (by omega) ?_
    refine eR.step 1 (F' := (143, [(0, .ref 23), (1, .int (nI 2)), (2, .int (nI (f))), (3, .int (nI (0 + pg e f 0 38))), (4, .int (nI 38))], [.int (nI (e ((32 + (16 * f)) + 1)))])) (h' := (Wd C e (P.1, 0) Q m1 N1 R 0 Z)) (fun _ _ => rfl) ?_
    exact eR.ret rfl rfl rfl
  · refine eR.ifc rfl false ((nc_eq (b := 0) (by omega) (by decide)).trans (decide_eq_false (by omega))) ?_
    refine eR.step 5 (F' := (58, [(0, .ref 23), (1, .int (nI 2)), (2, .int (nI (f))), (3, .int (nI 1)), (4, .int (nI 0))], [])) (h' := (Wd C e (P.1, 0) Q m1 N1 R 0 Z)) (fun _ _ => rfl) ?_
    refine l_pg (show 159 ≤ lo by omega) V.B.dk hf hx6 38 0 1 (by omega) (by omega) ?_
    refine eR.step 1 (F' := (90, [(0, .ref 23), (1, .int (nI 2)), (2, .int (nI (f))), (3, .int (nI (1 + pg e f 0 38))), (4, .int (nI 38))], [.int (nI 2)])) (h' := (Wd C e (P.1, 0) Q m1 N1 R 0 Z)) (fun _ _ => rfl) ?_
    refine eR.ifc rfl true rfl ?_
    refine eR.step 2 (F' := (99, [(0, .ref 23), (1, .int (nI 2)), (2, .int (nI (f))), (3, .int (nI (1 + pg e f 0 38))), (4, .int (nI 38))], [.int (nI 1), .int (nI 2)])) (h' := (Wd C e (P.1, 0) Q m1 N1 R 0 Z)) (fun _ _ => rfl) ?_
    refine eR.icmp rfl true rfl ?_
    refine eR.step 2 (F' := (112, [(0, .ref 23), (1, .int (nI 2)), (2, .int (nI (f))), (3, .int (nI (1 + pg e f 0 38))), (4, .int (nI 38))], [.int (nI 2), .int (nI 2)])) (h' := (Wd C e (P.1, 0) Q m1 N1 R 0 Z)) (fun _ _ => rfl) ?_
    refine eR.icmp rfl false rfl ?_
    refine eR.step 3 (F' := (120, [(0, .ref 23), (1, .int (nI 2)), (2, .int (nI (f))), (3, .int (nI (1 + pg e f 0 38))), (4, .int (nI 38))], [.int (nI (f)), .ref 24])) (h' := (Wd C e (P.1, 0) Q m1 N1 R 0 Z)) (fun _ _ => rfl) ?_
    refine eR.call (k' := 111) (as := [.int (nI (f))]) (rest := [.ref 24]) (v := some (.int (nI (32 + (16 * f))))) (h1 := (Wd C e (P.1, 0) Q m1 N1 R 0 Z)) rfl rfl rfl rfl (eg (Nat.le_of_ble_eq_true rfl) (show 20 ≤ lo by omega) (Nat.le_of_ble_eq_true rfl)) (m_at (by omega)) ?_
    refine eR.step 1 (F' := (124, [(0, .ref 23), (1, .int (nI 2)), (2, .int (nI (f))), (3, .int (nI (1 + pg e f 0 38))), (4, .int (nI 38))], [.int (nI 1), .int (nI (32 + (16 * f))), .ref 24])) (h' := (Wd C e (P.1, 0) Q m1 N1 R 0 Z)) (fun _ _ => rfl) ?_
    refine eR.nadd rfl ?_
    refine eR.ld24 rfl (by omega) ?_
    refine eR.step 1 (F' := (143, [(0, .ref 23), (1, .int (nI 2)), (2, .int (nI (f))), (3, .int (nI (1 + pg e f 0 38))), (4, .int (nI 38))], [.int (nI (e ((32 + (16 * f)) + 1)))])) (h' := (Wd C e (P.1, 0) Q m1 N1 R 0 Z)) (fun _ _ => rfl) ?_
    exact eR.ret rfl rfl rfl
theorem m_stat3 {cm sm fr lo : Nat} {C : gC} {e : Nat → Nat} {P Q : gT} {m : Nat} {N : Nat → Nat} {R : gS} {t : Nat} {Z : mj_H} (hlo : 159 ≤ lo) (V : qV e) (hN : ∀ k, N k < 256) (ht : ∀ k, P.1 k < 65536) (hl : P.2 ≤ 40) {f m1 : Nat} {N1 : Nat → Nat} (hf0 : fo e P N = f) (hm0 : (pP P.1 P.2 N).2.1 = m1) (hN0 : (pP P.1 P.2 N).2.2 = N1) (h11 : e 11 = 1) (hfn : ¬ f = 0) (hf : f < 16) (hx6 : e (32 + (16 * f) + 10) < 64)  : eE mm_P cm sm (fr + 8) lo 157 [.ref 23, .int (nI 3)] (Wd C e P Q m N R t Z) (.inl (some (.int (nI (e (32 + (16 * f) + 2) + (256 * e (32 + (16 * f) + 3)))))), (Wd C e (P.1, 0) Q m1 N1 R 0 Z)) := by
  refine eE.of ?_
  have htf := tf_le e f
  refine eR.step 2 (F' := (2, [(0, .ref 23), (1, .int (nI 3))], [.int (nI 0), .ref 23])) (h' := (Wd C e P Q m N R t Z)) (fun _ _ => rfl) ?_
  refine eR.call (k' := 142) (as := [.ref 23, .int (nI 0)]) (rest := []) (v := some (.int (nI (fo e P N)))) (h1 := (Wd C e (P.1, 0) Q (pP P.1 P.2 N).2.1 (pP P.1 P.2 N).2.2 R (tf e (fo e P N)) Z)) rfl rfl rfl rfl (eg (Nat.le_of_ble_eq_true rfl) (show 23 ≤ lo by omega) (Nat.le_of_ble_eq_true rfl)) (m_found0 (show 136 ≤ lo - 23 by omega) V hN ht hl) ?_
  rw [hf0, hm0, hN0]
  refine eR.step 3 (F' := (8, [(0, .ref 23), (1, .int (nI 3)), (2, .int (nI (f)))], [.int (nI 3), .ref 23])) (h' := (Wd C e (P.1, 0) Q m1 N1 R (tf e f) Z)) (fun _ _ => rfl) ?_
  rw [tf_0 h11 hfn]
  refine eR.ifc rfl false rfl ?_
  refine eR.step 2 (F' := (13, [(0, .ref 23), (1, .int (nI 3)), (2, .int (nI (f)))], [.int (nI 4), .int (nI 3), .ref 23])) (h' := (Wd C e (P.1, 0) Q m1 N1 R 0 Z)) (fun _ _ => rfl) ?_
  refine eR.icmp rfl true rfl ?_
  refine eR.step 2 (F' := (22, [(0, .ref 23), (1, .int (nI 3)), (2, .int (nI (f)))], [.int (nI 3), .int (nI 0), .ref 23])) (h' := (Wd C e (P.1, 0) Q m1 N1 R 0 Z)) (fun _ _ => rfl) ?_
  refine eR.call (k' := 136) (as := [.ref 23, .int (nI 0), .int (nI 3)]) (rest := []) (v := none) (h1 := (Wd C e (P.1, 0) Q m1 N1 R (ri false 0 3) Z)) rfl rfl rfl rfl (eg (Nat.le_of_ble_eq_true rfl) (show 22 ≤ lo by omega) (Nat.le_of_ble_eq_true rfl)) (m_refIf (b := false) (show 21 ≤ lo - 22 by omega) (by decide)) ?_
  rw [show ri false 0 3 = 0 from rfl]
  refine eR.step 2 (F' := (29, [(0, .ref 23), (1, .int (nI 3)), (2, .int (nI (f)))], [.int (nI 0)])) (h' := (Wd C e (P.1, 0) Q m1 N1 R 0 Z)) (fun _ _ => rfl) ?_
  refine eR.ifc rfl true ((nc_eq (b := 0) (by omega) (by decide)).trans (decide_eq_true (by omega))) ?_
  refine eR.step 3 (F' := (39, [(0, .ref 23), (1, .int (nI 3)), (2, .int (nI (f)))], [.int (nI (f)), .ref 24])) (h' := (Wd C e (P.1, 0) Q m1 N1 R 0 Z)) (fun _ _ => rfl) ?_
  refine eR.call (k' := 111) (as := [.int (nI (f))]) (rest := [.ref 24]) (v := some (.int (nI (32 + (16 * f))))) (h1 := (Wd C e (P.1, 0) Q m1 N1 R 0 Z)) rfl rfl rfl rfl (eg (Nat.le_of_ble_eq_true rfl) (show 20 ≤ lo by omega) (Nat.le_of_ble_eq_true rfl)) (m_at (by omega)) ?_
  refine eR.step 1 (F' := (44, [(0, .ref 23), (1, .int (nI 3)), (2, .int (nI (f)))], [.int (nI 10), .int (nI (32 + (16 * f))), .ref 24])) (h' := (Wd C e (P.1, 0) Q m1 N1 R 0 Z)) (fun _ _ => rfl) ?_
  refine eR.nadd rfl ?_
  refine eR.ld24 rfl (by omega) ?_
  by_cases h : e (32 + (16 * f) + 10) = 0
  · refine eR.ifc rfl true ((nc_eq (b := 0) (by omega) (by decide)).trans (decide_eq_true (by omega))) ?_
    refine eR.step 4 (F' := (58, [(0, .ref 23), (1, .int (nI 3)), (2, .int (nI (f))), (3, .int (nI 0)), (4, .int (nI 0))], [])) (h' := (Wd C e (P.1, 0) Q m1 N1 R 0 Z)) (fun _ _ => rfl) ?_
    refine l_pg (show 159 ≤ lo by omega) V.B.dk hf hx6 38 0 0 (by omega) (by omega) ?_
    refine eR.step 1 (F' := (90, [(0, .ref 23), (1, .int (nI 3)), (2, .int (nI (f))), (3, .int (nI (0 + pg e f 0 38))), (4, .int (nI 38))], [.int (nI 3)])) (h' := (Wd C e (P.1, 0) Q m1 N1 R 0 Z)) (fun _ _ => rfl) ?_
    refine eR.ifc rfl true rfl ?_
    refine eR.step 2 (F' := (99, [(0, .ref 23), (1, .int (nI 3)), (2, .int (nI (f))), (3, .int (nI (0 + pg e f 0 38))), (4, .int (nI 38))], [.int (nI 1), .int (nI 3)])) (h' := (Wd C e (P.1, 0) Q m1 N1 R 0 Z)) (fun _ _ => rfl) ?_
    refine eR.icmp rfl true rfl ?_
    refine eR.step 2 (F' := (112, [(0, .ref 23), (1, .int (nI 3)), (2, .int (nI (f))), (3, .int (nI (0 + pg e f 0 38))), (4, .int (nI 38))], [.int (nI 2), .int (nI 3)])) (h' := (Wd C e (P.1, 0) Q m1 N1 R 0 Z)) (fun _ _ => rfl) ?_
    refine eR.icmp rfl true rfl ?_
    refine eR.step 2 (F' := (131, [(0, .ref 23), (1, .int (nI 3)), (2, .int (nI (f))), (3, .int (nI (0 + pg e f 0 38))), (4, .int (nI 38))], [.int (nI 3), .int (nI 3)])) (h' := (Wd C e (P.1, 0) Q m1 N1 R 0 Z)) (fun _ _ => rfl) ?_
    refine eR.icmp rfl false rfl ?_
    refine eR.step 2 (F' := (136, [(0, .ref 23), (1, .int (nI 3)), (2, .int (nI (f))), (3, .int (nI (0 + pg e f 0 38))), (4, .int (nI 38))], [.int (nI (f)), .ref 23])) (h' := (Wd C e (P.1, 0) Q m1 N1 R 0 Z)) (fun _ _ => rfl) ?_
    refine eR.call (k' := 131) (as := [.ref 23, .int (nI (f))]) (rest := []) (v := some (.int (nI (e (32 + (16 * f) + 2) + (256 * e (32 + (16 * f) + 3)))))) (h1 := (Wd C e (P.1, 0) Q m1 N1 R 0 Z)) rfl rfl rfl rfl (eg (Nat.le_of_ble_eq_true rfl) (show 21 ≤ lo by omega) (Nat.le_of_ble_eq_true rfl)) (m_size (show 20 ≤ lo - 21 by omega) V.B.dk hf) ?_
    refine eR.step 1 (F' := (143, [(0, .ref 23), (1, .int (nI 3)), (2, .int (nI (f))), (3, .int (nI (0 + pg e f 0 38))), (4, .int (nI 38))], [.int (nI (e (32 + (16 * f) + 2) + (256 * e (32 + (16 * f) + 3))))])) (h' := (Wd C e (P.1, 0) Q m1 N1 R 0 Z)) (fun _ _ => rfl) ?_
    exact eR.ret rfl rfl rfl
  · refine eR.ifc rfl false ((nc_eq (b := 0) (by omega) (by decide)).trans (decide_eq_false (by omega))) ?_
    refine eR.step 5 (F' := (58, [(0, .ref 23), (1, .int (nI 3)), (2, .int (nI (f))), (3, .int (nI 1)), (4, .int (nI 0))], [])) (h' := (Wd C e (P.1, 0) Q m1 N1 R 0 Z)) (fun _ _ => rfl) ?_
    refine l_pg (show 159 ≤ lo by omega) V.B.dk hf hx6 38 0 1 (by omega) (by omega) ?_
    refine eR.step 1 (F' := (90, [(0, .ref 23), (1, .int (nI 3)), (2, .int (nI (f))), (3, .int (nI (1 + pg e f 0 38))), (4, .int (nI 38))], [.int (nI 3)])) (h' := (Wd C e (P.1, 0) Q m1 N1 R 0 Z)) (fun _ _ => rfl) ?_
    refine eR.ifc rfl true rfl ?_
    refine eR.step 2 (F' := (99, [(0, .ref 23), (1, .int (nI 3)), (2, .int (nI (f))), (3, .int (nI (1 + pg e f 0 38))), (4, .int (nI 38))], [.int (nI 1), .int (nI 3)])) (h' := (Wd C e (P.1, 0) Q m1 N1 R 0 Z)) (fun _ _ => rfl) ?_
    refine eR.icmp rfl true rfl ?_
    refine eR.step 2 (F' := (112, [(0, .ref 23), (1, .int (nI 3)), (2, .int (nI (f))), (3, .int (nI (1 + pg e f 0 38))), (4, .int (nI 38))], [.int (nI 2), .int (nI 3)])) (h' := (Wd C e (P.1, 0) Q m1 N1 R 0 Z)) (fun _ _ => rfl) ?_
    refine eR.icmp rfl true rfl ?_
    refine eR.step 2 (F' := (131, [(0, .ref 23), (1, .int (nI 3)), (2, .int (nI (f))), (3, .int (nI (1 + pg e f 0 38))), (4, .int (nI 38))], [.int (nI 3), .int (nI 3)])) (h' := (Wd C e (P.1, 0) Q m1 N1 R 0 Z)) (fun _ _ => rfl) ?_
    refine eR.icmp rfl false rfl ?_
    refine eR.step 2 (F' := (136, [(0, .ref 23), (1, .int (nI 3)), (2, .int (nI (f))), (3, .int (nI (1 + pg e f 0 38))), (4, .int (nI 38))], [.int (nI (f)), .ref 23])) (h' := (Wd C e (P.1, 0) Q m1 N1 R 0 Z)) (fun _ _ => rfl) ?_
    refine eR.call (k' := 131) (as := [.ref 23, .int (nI (f))]) (rest := []) (v := some (.int (nI (e (32 + (16 * f) + 2) + (256 * e (32 + (16 * f) + 3)))))) (h1 := (Wd C e (P.1, 0) Q m1 N1 R 0 Z)) rfl rfl rfl rfl (eg (Nat.le_of_ble_eq_true rfl) (show 21 ≤ lo by omega) (Nat.le_of_ble_eq_true rfl)) (m_size (show 20 ≤ lo - 21 by omega) V.B.dk hf) ?_
    refine eR.step 1 (F' := (143, [(0, .ref 23), (1, .int (nI 3)), (2, .int (nI (f))), (3, .int (nI (1 + pg e f 0 38))), (4, .int (nI 38))], [.int (nI (e (32 + (16 * f) + 2) + (256 * e (32 + (16 * f) + 3))))])) (h' := (Wd C e (P.1, 0) Q m1 N1 R 0 Z)) (fun _ _ => rfl) ?_
    exact eR.ret rfl rfl rfl
theorem m_stat4 {cm sm fr lo : Nat} {C : gC} {e : Nat → Nat} {P Q : gT} {m : Nat} {N : Nat → Nat} {R : gS} {t : Nat} {Z : mj_H} (hlo : 159 ≤ lo) (V : qV e) (hN : ∀ k, N k < 256) (ht : ∀ k, P.1 k < 65536) (hl : P.2 ≤ 40) {f m1 : Nat} {N1 : Nat → Nat} (hf0 : fo e P N = f) (hm0 : (pP P.1 P.2 N).2.1 = m1) (hN0 : (pP P.1 P.2 N).2.2 = N1) (h11 : e 11 = 1) (hfn : ¬ f = 0) (hf : f < 16) (hx6 : e (32 + (16 * f) + 10) < 64)  : eE mm_P cm sm (fr + 8) lo 157 [.ref 23, .int (nI 4)] (Wd C e P Q m N R t Z) (.inl (some (.int (nI ((if e (32 + (16 * f) + 10) = 0 then 0 else 1) + pg e f 0 38)))), (Wd C e (P.1, 0) Q m1 N1 R 0 Z)) := by
  refine eE.of ?_
  have htf := tf_le e f
  refine eR.step 2 (F' := (2, [(0, .ref 23), (1, .int (nI 4))], [.int (nI 0), .ref 23])) (h' := (Wd C e P Q m N R t Z)) (fun _ _ => rfl) ?_
  refine eR.call (k' := 142) (as := [.ref 23, .int (nI 0)]) (rest := []) (v := some (.int (nI (fo e P N)))) (h1 := (Wd C e (P.1, 0) Q (pP P.1 P.2 N).2.1 (pP P.1 P.2 N).2.2 R (tf e (fo e P N)) Z)) rfl rfl rfl rfl (eg (Nat.le_of_ble_eq_true rfl) (show 23 ≤ lo by omega) (Nat.le_of_ble_eq_true rfl)) (m_found0 (show 136 ≤ lo - 23 by omega) V hN ht hl) ?_
  rw [hf0, hm0, hN0]
  refine eR.step 3 (F' := (8, [(0, .ref 23), (1, .int (nI 4)), (2, .int (nI (f)))], [.int (nI 4), .ref 23])) (h' := (Wd C e (P.1, 0) Q m1 N1 R (tf e f) Z)) (fun _ _ => rfl) ?_
  rw [tf_0 h11 hfn]
  refine eR.ifc rfl false rfl ?_
  refine eR.step 2 (F' := (13, [(0, .ref 23), (1, .int (nI 4)), (2, .int (nI (f)))], [.int (nI 4), .int (nI 4), .ref 23])) (h' := (Wd C e (P.1, 0) Q m1 N1 R 0 Z)) (fun _ _ => rfl) ?_
  refine eR.icmp rfl true rfl ?_
  refine eR.step 2 (F' := (22, [(0, .ref 23), (1, .int (nI 4)), (2, .int (nI (f)))], [.int (nI 3), .int (nI 0), .ref 23])) (h' := (Wd C e (P.1, 0) Q m1 N1 R 0 Z)) (fun _ _ => rfl) ?_
  refine eR.call (k' := 136) (as := [.ref 23, .int (nI 0), .int (nI 3)]) (rest := []) (v := none) (h1 := (Wd C e (P.1, 0) Q m1 N1 R (ri false 0 3) Z)) rfl rfl rfl rfl (eg (Nat.le_of_ble_eq_true rfl) (show 22 ≤ lo by omega) (Nat.le_of_ble_eq_true rfl)) (m_refIf (b := false) (show 21 ≤ lo - 22 by omega) (by decide)) ?_
  rw [show ri false 0 3 = 0 from rfl]
  refine eR.step 2 (F' := (29, [(0, .ref 23), (1, .int (nI 4)), (2, .int (nI (f)))], [.int (nI 0)])) (h' := (Wd C e (P.1, 0) Q m1 N1 R 0 Z)) (fun _ _ => rfl) ?_
  refine eR.ifc rfl true ((nc_eq (b := 0) (by omega) (by decide)).trans (decide_eq_true (by omega))) ?_
  refine eR.step 3 (F' := (39, [(0, .ref 23), (1, .int (nI 4)), (2, .int (nI (f)))], [.int (nI (f)), .ref 24])) (h' := (Wd C e (P.1, 0) Q m1 N1 R 0 Z)) (fun _ _ => rfl) ?_
  refine eR.call (k' := 111) (as := [.int (nI (f))]) (rest := [.ref 24]) (v := some (.int (nI (32 + (16 * f))))) (h1 := (Wd C e (P.1, 0) Q m1 N1 R 0 Z)) rfl rfl rfl rfl (eg (Nat.le_of_ble_eq_true rfl) (show 20 ≤ lo by omega) (Nat.le_of_ble_eq_true rfl)) (m_at (by omega)) ?_
  refine eR.step 1 (F' := (44, [(0, .ref 23), (1, .int (nI 4)), (2, .int (nI (f)))], [.int (nI 10), .int (nI (32 + (16 * f))), .ref 24])) (h' := (Wd C e (P.1, 0) Q m1 N1 R 0 Z)) (fun _ _ => rfl) ?_
  refine eR.nadd rfl ?_
  refine eR.ld24 rfl (by omega) ?_
  by_cases h : e (32 + (16 * f) + 10) = 0
  · rw [if_pos h]
    refine eR.ifc rfl true ((nc_eq (b := 0) (by omega) (by decide)).trans (decide_eq_true (by omega))) ?_
    refine eR.step 4 (F' := (58, [(0, .ref 23), (1, .int (nI 4)), (2, .int (nI (f))), (3, .int (nI 0)), (4, .int (nI 0))], [])) (h' := (Wd C e (P.1, 0) Q m1 N1 R 0 Z)) (fun _ _ => rfl) ?_
    refine l_pg (show 159 ≤ lo by omega) V.B.dk hf hx6 38 0 0 (by omega) (by omega) ?_
    refine eR.step 1 (F' := (90, [(0, .ref 23), (1, .int (nI 4)), (2, .int (nI (f))), (3, .int (nI (0 + pg e f 0 38))), (4, .int (nI 38))], [.int (nI 4)])) (h' := (Wd C e (P.1, 0) Q m1 N1 R 0 Z)) (fun _ _ => rfl) ?_
    refine eR.ifc rfl true rfl ?_
    refine eR.step 2 (F' := (99, [(0, .ref 23), (1, .int (nI 4)), (2, .int (nI (f))), (3, .int (nI (0 + pg e f 0 38))), (4, .int (nI 38))], [.int (nI 1), .int (nI 4)])) (h' := (Wd C e (P.1, 0) Q m1 N1 R 0 Z)) (fun _ _ => rfl) ?_
    refine eR.icmp rfl true rfl ?_
    refine eR.step 2 (F' := (112, [(0, .ref 23), (1, .int (nI 4)), (2, .int (nI (f))), (3, .int (nI (0 + pg e f 0 38))), (4, .int (nI 38))], [.int (nI 2), .int (nI 4)])) (h' := (Wd C e (P.1, 0) Q m1 N1 R 0 Z)) (fun _ _ => rfl) ?_
    refine eR.icmp rfl true rfl ?_
    refine eR.step 2 (F' := (131, [(0, .ref 23), (1, .int (nI 4)), (2, .int (nI (f))), (3, .int (nI (0 + pg e f 0 38))), (4, .int (nI 38))], [.int (nI 3), .int (nI 4)])) (h' := (Wd C e (P.1, 0) Q m1 N1 R 0 Z)) (fun _ _ => rfl) ?_
    refine eR.icmp rfl true rfl ?_
    refine eR.step 1 (F' := (143, [(0, .ref 23), (1, .int (nI 4)), (2, .int (nI (f))), (3, .int (nI (0 + pg e f 0 38))), (4, .int (nI 38))], [.int (nI (0 + pg e f 0 38))])) (h' := (Wd C e (P.1, 0) Q m1 N1 R 0 Z)) (fun _ _ => rfl) ?_
    exact eR.ret rfl rfl rfl
  · rw [if_neg h]
    refine eR.ifc rfl false ((nc_eq (b := 0) (by omega) (by decide)).trans (decide_eq_false (by omega))) ?_
    refine eR.step 5 (F' := (58, [(0, .ref 23), (1, .int (nI 4)), (2, .int (nI (f))), (3, .int (nI 1)), (4, .int (nI 0))], [])) (h' := (Wd C e (P.1, 0) Q m1 N1 R 0 Z)) (fun _ _ => rfl) ?_
    refine l_pg (show 159 ≤ lo by omega) V.B.dk hf hx6 38 0 1 (by omega) (by omega) ?_
    refine eR.step 1 (F' := (90, [(0, .ref 23), (1, .int (nI 4)), (2, .int (nI (f))), (3, .int (nI (1 + pg e f 0 38))), (4, .int (nI 38))], [.int (nI 4)])) (h' := (Wd C e (P.1, 0) Q m1 N1 R 0 Z)) (fun _ _ => rfl) ?_
    refine eR.ifc rfl true rfl ?_
    refine eR.step 2 (F' := (99, [(0, .ref 23), (1, .int (nI 4)), (2, .int (nI (f))), (3, .int (nI (1 + pg e f 0 38))), (4, .int (nI 38))], [.int (nI 1), .int (nI 4)])) (h' := (Wd C e (P.1, 0) Q m1 N1 R 0 Z)) (fun _ _ => rfl) ?_
    refine eR.icmp rfl true rfl ?_
    refine eR.step 2 (F' := (112, [(0, .ref 23), (1, .int (nI 4)), (2, .int (nI (f))), (3, .int (nI (1 + pg e f 0 38))), (4, .int (nI 38))], [.int (nI 2), .int (nI 4)])) (h' := (Wd C e (P.1, 0) Q m1 N1 R 0 Z)) (fun _ _ => rfl) ?_
    refine eR.icmp rfl true rfl ?_
    refine eR.step 2 (F' := (131, [(0, .ref 23), (1, .int (nI 4)), (2, .int (nI (f))), (3, .int (nI (1 + pg e f 0 38))), (4, .int (nI 38))], [.int (nI 3), .int (nI 4)])) (h' := (Wd C e (P.1, 0) Q m1 N1 R 0 Z)) (fun _ _ => rfl) ?_
    refine eR.icmp rfl true rfl ?_
    refine eR.step 1 (F' := (143, [(0, .ref 23), (1, .int (nI 4)), (2, .int (nI (f))), (3, .int (nI (1 + pg e f 0 38))), (4, .int (nI 38))], [.int (nI (1 + pg e f 0 38))])) (h' := (Wd C e (P.1, 0) Q m1 N1 R 0 Z)) (fun _ _ => rfl) ?_
    exact eR.ret rfl rfl rfl

