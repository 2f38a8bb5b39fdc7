theorem gb7_dk {d : Nat → Nat} (h : dk d) (i : Nat) : dk (gb_7 d i) := by
  unfold gb_7
  split
  · exact tb_dk h _ _
  · exact h
theorem gb6_dk {d : Nat → Nat} (h : dk d) (i : Nat) : dk (gb_6 d i) := by
  unfold gb_6
  split
  · exact tb_dk h _ _
  · exact h
def f1 (d : Nat → Nat) (i w : Nat) : Nat → Nat := if 6 ≤ w ∧ d (32 + (16 * i) + 10) = 0 then dp (tB d) (32 + (16 * i) + 10) (lw d 3 9 55) else d
def f2 (d : Nat → Nat) (i w : Nat) : Nat → Nat := if bo d i w = 0 then op (tB d) (eo d i w) (lw d 3 9 55) else d
def fh (d : Nat → Nat) (i w : Nat) : Nat → Nat := f2 (f1 d i w) i w
theorem f1_dk {d : Nat → Nat} (h : dk d) (i w : Nat) : dk (f1 d i w) := by
  unfold f1
  split
  · exact dp_dk (tB_dk h) _ _
  · exact h
theorem f2_dk {d : Nat → Nat} (h : dk d) (i w : Nat) : dk (f2 d i w) := by
  unfold f2
  split
  · exact op_dk (tB_dk h) _ _
  · exact h
theorem fh_dk {d : Nat → Nat} (h : dk d) (i w : Nat) : dk (fh d i w) := f2_dk (f1_dk h i w) i w
theorem l_fill {cm sm fr lo L : Nat} {xs : Nat → Int32} {A B : gT} {U V : gU} {S : gS} {d : Nat → Nat} {X : mj_H} (hlo : 66 ≤ lo) (hd : dk d) {i : Nat} (hi : i < 2 ^ 20) {w : Nat} (hw : w < 2 ^ 20) : eR mm_P cm sm (fr + 3) lo 18 (32, [(0, .ref 8), (1, .int (nI i)), (2, .int (nI w))], []) (Gc L xs A B U V S d X) (.inl none, Gc L xs A B U V S (f2 d i w) X) := by
  refine eR.step 3 (F' := (35, [(0, .ref 8), (1, .int (nI (i))), (2, .int (nI (w)))], [.int (nI (w)), .int (nI (i)), .ref 8])) (h' := (Gc L xs A B U V S d X)) (fun _ _ => rfl) ?_
  refine eR.call (k' := 22) (as := [.ref 8, .int (nI (i)), .int (nI (w))]) (rest := []) (v := some (.int (ei (eo d i w)))) (h1 := (Gc L xs A B U V S d X)) rfl rfl rfl rfl (eg (Nat.le_of_ble_eq_true rfl) (show 23 ≤ lo by omega) (Nat.le_of_ble_eq_true rfl)) (c_entryOf (show 21 ≤ lo - 23 by omega) hd hi hw) ?_
  refine eR.step 4 (F' := (44, [(0, .ref 8), (1, .int (nI (i))), (2, .int (nI (w))), (3, .int (ei (eo d i w)))], [.int (ei (eo d i w)), .ref 4])) (h' := (Gc L xs A B U V S d X)) (fun _ _ => rfl) ?_
  refine eR.call (k' := 20) (as := [.ref 4, .int (ei (eo d i w))]) (rest := []) (v := some (.int (nI (bo d i w)))) (h1 := (Gc L xs A B U V S d X)) rfl rfl rfl rfl (eg (Nat.le_of_ble_eq_true rfl) (show 21 ≤ lo by omega) (Nat.le_of_ble_eq_true rfl)) (c_get_o hd (eo_lt hd hi hw)) ?_
  have hb := bo_lt hd i w
  unfold f2
  by_cases h0 : bo d i w = 0
  · rw [if_pos h0]
    refine eR.ifc rfl false ((nc_ne (b := 0) (by omega) (by decide)).trans (decide_eq_false (by omega))) ?_
    refine eR.step 4 (F' := (56, [(0, .ref 8), (1, .int (nI (i))), (2, .int (nI (w))), (3, .int (ei (eo d i w)))], [.ref 8, .int (ei (eo d i w)), .ref 4])) (h' := (Gc L xs A B U V S d X)) (fun _ _ => rfl) ?_
    refine eR.call (k' := 21) (as := [.ref 8]) (rest := [.int (ei (eo d i w)), .ref 4]) (v := some (.int (nI (lw d 3 9 55)))) (h1 := (Gc L xs A B U V S (tB d) X)) rfl rfl rfl rfl (eg (Nat.le_of_ble_eq_true rfl) (show 21 ≤ lo by omega) (Nat.le_of_ble_eq_true rfl)) (c_takeBlock (show 45 ≤ lo - 21 by omega) hd) ?_
    refine eR.call (k' := 10) (as := [.ref 4, .int (ei (eo d i w)), .int (nI (lw d 3 9 55))]) (rest := []) (v := none) (h1 := (Gc L xs A B U V S (op (tB d) (eo d i w) (lw d 3 9 55)) X)) rfl rfl rfl rfl (eg (Nat.le_of_ble_eq_true rfl) (show 22 ≤ lo by omega) (Nat.le_of_ble_eq_true rfl)) (c_put_o (eo_lt hd hi hw)) ?_
    exact eR.ret rfl rfl rfl
  · rw [if_neg h0]
    refine eR.ifc rfl true ((nc_ne (b := 0) (by omega) (by decide)).trans (decide_eq_true (by omega))) ?_
    exact eR.ret rfl rfl rfl
theorem c_fill {cm sm fr lo L : Nat} {xs : Nat → Int32} {A B : gT} {U V : gU} {S : gS} {d : Nat → Nat} {X : mj_H} (hlo : 66 ≤ lo) (hd : dk d) {i : Nat} (hi : i < 2 ^ 20) {w : Nat} (hw : w < 2 ^ 20) : eE mm_P cm sm (fr + 4) lo 18 [.ref 8, .int (nI (i)), .int (nI (w))] (Gc L xs A B U V S d X) (.inl (none), Gc L xs A B U V S (fh d i w) X) := by
  unfold fh
  by_cases h6 : w < 6
  · have e : f1 d i w = d := by
      unfold f1
      rw [if_neg (by omega)]
    rw [e]
    refine eE.of ?_
    refine eR.step 2 (F' := (3, [(0, .ref 8), (1, .int (nI (i))), (2, .int (nI (w)))], [.int (nI 6), .int (nI (w))])) (h' := (Gc L xs A B U V S d X)) (fun _ _ => rfl) ?_
    refine eR.icmp rfl true ((nc_lt (by omega) (by decide)).trans (decide_eq_true (by omega))) ?_
    exact l_fill hlo hd hi hw
  · refine eE.of ?_
    refine eR.step 2 (F' := (3, [(0, .ref 8), (1, .int (nI (i))), (2, .int (nI (w)))], [.int (nI 6), .int (nI (w))])) (h' := (Gc L xs A B U V S d X)) (fun _ _ => rfl) ?_
    refine eR.icmp rfl false ((nc_lt (by omega) (by decide)).trans (decide_eq_false (by omega))) ?_
    refine eR.step 2 (F' := (8, [(0, .ref 8), (1, .int (nI (i))), (2, .int (nI (w)))], [.int (nI (i)), .ref 8])) (h' := (Gc L xs A B U V S d X)) (fun _ _ => rfl) ?_
    refine eR.call (k' := 19) (as := [.ref 8, .int (nI (i))]) (rest := []) (v := some (.int (nI (d (32 + (16 * i) + 10))))) (h1 := (Gc L xs A B U V S d X)) rfl rfl rfl rfl (eg (Nat.le_of_ble_eq_true rfl) (show 21 ≤ lo by omega) (Nat.le_of_ble_eq_true rfl)) (c_indirect (show 21 ≤ lo - 21 by omega) hd hi) ?_
    have hb := hd.1 (32 + (16 * i) + 10)
    by_cases h0 : d (32 + (16 * i) + 10) = 0
    · have e : f1 d i w = dp (tB d) (32 + (16 * i) + 10) (lw d 3 9 55) := by
        unfold f1
        rw [if_pos ⟨by omega, h0⟩]
      refine eR.ifc rfl false ((nc_ne (b := 0) (by omega) (by decide)).trans (decide_eq_false (by omega))) ?_
      refine eR.step 3 (F' := (19, [(0, .ref 8), (1, .int (nI (i))), (2, .int (nI (w)))], [.int (nI (i)), .ref 4])) (h' := (Gc L xs A B U V S d X)) (fun _ _ => rfl) ?_
      refine eR.call (k' := 16) (as := [.int (nI (i))]) (rest := [.ref 4]) (v := some (.int (nI (32 + (16 * i))))) (h1 := (Gc L xs A B U V S d X)) rfl rfl rfl rfl (eg (Nat.le_of_ble_eq_true rfl) (show 20 ≤ lo by omega) (Nat.le_of_ble_eq_true rfl)) (c_start) ?_
      refine eR.step 1 (F' := (24, [(0, .ref 8), (1, .int (nI (i))), (2, .int (nI (w)))], [.int (nI 10), .int (nI (32 + (16 * i))), .ref 4])) (h' := (Gc L xs A B U V S d X)) (fun _ _ => rfl) ?_
      refine eR.nadd rfl ?_
      refine eR.step 1 (F' := (26, [(0, .ref 8), (1, .int (nI (i))), (2, .int (nI (w)))], [.ref 8, .int (nI ((32 + (16 * i)) + 10)), .ref 4])) (h' := (Gc L xs A B U V S d X)) (fun _ _ => rfl) ?_
      refine eR.call (k' := 21) (as := [.ref 8]) (rest := [.int (nI ((32 + (16 * i)) + 10)), .ref 4]) (v := some (.int (nI (lw d 3 9 55)))) (h1 := (Gc L xs A B U V S (tB d) X)) rfl rfl rfl rfl (eg (Nat.le_of_ble_eq_true rfl) (show 21 ≤ lo by omega) (Nat.le_of_ble_eq_true rfl)) (c_takeBlock (show 45 ≤ lo - 21 by omega) hd) ?_
      refine eR.call (k' := 10) (as := [.ref 4, .int (nI ((32 + (16 * i)) + 10)), .int (nI (lw d 3 9 55))]) (rest := []) (v := none) (h1 := (Gc L xs A B U V S (f1 d i w) X)) rfl rfl rfl rfl (eg (Nat.le_of_ble_eq_true rfl) (show 22 ≤ lo by omega) (Nat.le_of_ble_eq_true rfl)) (e ▸ c_put (by omega)) ?_
      exact l_fill hlo (f1_dk hd i w) hi hw
    · have e : f1 d i w = d := by
        unfold f1
        rw [if_neg (fun z => h0 z.2)]
      rw [e]
      refine eR.ifc rfl true ((nc_ne (b := 0) (by omega) (by decide)).trans (decide_eq_true (by omega))) ?_
      exact l_fill hlo hd hi hw
def d1 (d : Nat → Nat) (i w : Nat) : Nat → Nat := op (gb_7 d (bo d i w)) (eo d i w) 0
theorem d1_dk {d : Nat → Nat} (h : dk d) (i w : Nat) : dk (d1 d i w) := op_dk (gb7_dk h _) _ _
def dl (i : Nat) : (Nat → Nat) → Nat → Nat → (Nat → Nat)
  | d, _, 0 => d
  | d, w, n + 1 => dl i (d1 d i w) (w + 1) n
theorem dl_dk (i : Nat) : ∀ (n : Nat) (d : Nat → Nat) (w : Nat), dk d → dk (dl i d w n)
  | 0, _, _, h => h
  | n + 1, d, w, h => dl_dk i n (d1 d i w) (w + 1) (d1_dk h i w)
def d2 (d : Nat → Nat) (i : Nat) : Nat → Nat := if sp d i 6 32 = true then d else dp (gb_7 d (d (32 + (16 * i) + 10))) (32 + (16 * i) + 10) 0
theorem d2_dk {d : Nat → Nat} (h : dk d) (i : Nat) : dk (d2 d i) := by
  unfold d2
  split
  · exact h
  · exact dp_dk (gb7_dk h _) _ _
/-- all pages from u on dropped -/
def dr (d : Nat → Nat) (i u : Nat) : Nat → Nat := d2 (dl i d u (38 - u)) i
theorem dr_dk {d : Nat → Nat} (h : dk d) (i u : Nat) : dk (dr d i u) := d2_dk (dl_dk i _ d u h) i
theorem l_dropA {cm sm fr lo L : Nat} {xs : Nat → Int32} {A B : gT} {U V : gU} {S : gS} {d : Nat → Nat} {X : mj_H} (hlo : 88 ≤ lo) (hd : dk d) {i : Nat} (hi : i < 2 ^ 20) {u w : Nat} : eR mm_P cm sm (fr + 4) lo 89 (48, [(0, .ref 8), (1, .int (nI (i))), (2, .int (nI (u))), (3, .int (nI (w)))], []) (Gc L xs A B U V S d X) (.inl none, Gc L xs A B U V S (d2 d i) X) := by
  refine eR.step 2 (F' := (50, [(0, .ref 8), (1, .int (nI (i))), (2, .int (nI (u))), (3, .int (nI (w)))], [.int (nI (i)), .ref 8])) (h' := (Gc L xs A B U V S d X)) (fun _ _ => rfl) ?_
  refine eR.call (k' := 91) (as := [.ref 8, .int (nI (i))]) (rest := []) (v := some (.int (nI (bi (sp d i 6 32))))) (h1 := (Gc L xs A B U V S d X)) rfl rfl rfl rfl (eg (Nat.le_of_ble_eq_true rfl) (show 22 ≤ lo by omega) (Nat.le_of_ble_eq_true rfl)) (c_hasInd (show 66 ≤ lo - 22 by omega) hd hi) ?_
  unfold d2
  by_cases h0 : sp d i 6 32 = true
  · rw [if_pos h0]
    refine eR.ifc rfl true ((nc_ne (b := 0) (by rw [bi_t h0]; decide) (by decide)).trans (decide_eq_true (by rw [bi_t h0]; decide))) ?_
    exact eR.ret rfl rfl rfl
  · rw [if_neg h0]
    have hb := hd.1 (32 + (16 * i) + 10)
    refine eR.ifc rfl false ((nc_ne (b := 0) (by rw [bi_f h0]; decide) (by decide)).trans (decide_eq_false (by rw [bi_f h0]; decide))) ?_
    refine eR.step 4 (F' := (62, [(0, .ref 8), (1, .int (nI (i))), (2, .int (nI (u))), (3, .int (nI (w)))], [.int (nI (i)), .ref 8, .ref 7])) (h' := (Gc L xs A B U V S d X)) (fun _ _ => rfl) ?_
    refine eR.call (k' := 19) (as := [.ref 8, .int (nI (i))]) (rest := [.ref 7]) (v := some (.int (nI (d (32 + (16 * i) + 10))))) (h1 := (Gc L xs A B U V S d X)) rfl rfl rfl rfl (eg (Nat.le_of_ble_eq_true rfl) (show 21 ≤ lo by omega) (Nat.le_of_ble_eq_true rfl)) (c_indirect (show 21 ≤ lo - 21 by omega) hd hi) ?_
    refine eR.call (k' := 90) (as := [.ref 7, .int (nI (d (32 + (16 * i) + 10)))]) (rest := []) (v := none) (h1 := (Gc L xs A B U V S (gb_7 d (d (32 + (16 * i) + 10))) X)) rfl rfl rfl rfl (eg (Nat.le_of_ble_eq_true rfl) (show 21 ≤ lo by omega) (Nat.le_of_ble_eq_true rfl)) (c_give_7 (show 23 ≤ lo - 21 by omega) hd (by omega)) ?_
    refine eR.step 3 (F' := (73, [(0, .ref 8), (1, .int (nI (i))), (2, .int (nI (u))), (3, .int (nI (w)))], [.int (nI (i)), .ref 4])) (h' := (Gc L xs A B U V S (gb_7 d (d (32 + (16 * i) + 10))) X)) (fun _ _ => rfl) ?_
    refine eR.call (k' := 16) (as := [.int (nI (i))]) (rest := [.ref 4]) (v := some (.int (nI (32 + (16 * i))))) (h1 := (Gc L xs A B U V S (gb_7 d (d (32 + (16 * i) + 10))) X)) rfl rfl rfl rfl (eg (Nat.le_of_ble_eq_true rfl) (show 20 ≤ lo by omega) (Nat.le_of_ble_eq_true rfl)) (c_start) ?_
    refine eR.step 1 (F' := (78, [(0, .ref 8), (1, .int (nI (i))), (2, .int (nI (u))), (3, .int (nI (w)))], [.int (nI 10), .int (nI (32 + (16 * i))), .ref 4])) (h' := (Gc L xs A B U V S (gb_7 d (d (32 + (16 * i) + 10))) X)) (fun _ _ => rfl) ?_
    refine eR.nadd rfl ?_
    refine eR.step 1 (F' := (80, [(0, .ref 8), (1, .int (nI (i))), (2, .int (nI (u))), (3, .int (nI (w)))], [.int (nI 0), .int (nI ((32 + (16 * i)) + 10)), .ref 4])) (h' := (Gc L xs A B U V S (gb_7 d (d (32 + (16 * i) + 10))) X)) (fun _ _ => rfl) ?_
    refine eR.call (k' := 10) (as := [.ref 4, .int (nI ((32 + (16 * i)) + 10)), .int (nI 0)]) (rest := []) (v := none) (h1 := (Gc L xs A B U V S (dp (gb_7 d (d (32 + (16 * i) + 10))) (32 + (16 * i) + 10) 0) X)) rfl rfl rfl rfl (eg (Nat.le_of_ble_eq_true rfl) (show 22 ≤ lo by omega) (Nat.le_of_ble_eq_true rfl)) (c_put (by omega)) ?_
    exact eR.ret rfl rfl rfl
theorem l_dropB {cm sm fr lo L : Nat} {xs : Nat → Int32} {A B : gT} {U V : gU} {S : gS} {d : Nat → Nat} {X : mj_H} (hlo : 88 ≤ lo) (hd : dk d) {i : Nat} (hi : i < 2 ^ 20) {u w : Nat} {x : Int32} : eR mm_P cm sm (fr + 4) lo 89 (48, [(0, .ref 8), (1, .int (nI (i))), (2, .int (nI (u))), (3, .int (nI (w))), (4, .int (x))], []) (Gc L xs A B U V S d X) (.inl none, Gc L xs A B U V S (d2 d i) X) := by
  refine eR.step 2 (F' := (50, [(0, .ref 8), (1, .int (nI (i))), (2, .int (nI (u))), (3, .int (nI (w))), (4, .int (x))], [.int (nI (i)), .ref 8])) (h' := (Gc L xs A B U V S d X)) (fun _ _ => rfl) ?_
  refine eR.call (k' := 91) (as := [.ref 8, .int (nI (i))]) (rest := []) (v := some (.int (nI (bi (sp d i 6 32))))) (h1 := (Gc L xs A B U V S d X)) rfl rfl rfl rfl (eg (Nat.le_of_ble_eq_true rfl) (show 22 ≤ lo by omega) (Nat.le_of_ble_eq_true rfl)) (c_hasInd (show 66 ≤ lo - 22 by omega) hd hi) ?_
  unfold d2
  by_cases h0 : sp d i 6 32 = true
  · rw [if_pos h0]
    refine eR.ifc rfl true ((nc_ne (b := 0) (by rw [bi_t h0]; decide) (by decide)).trans (decide_eq_true (by rw [bi_t h0]; decide))) ?_
    exact eR.ret rfl rfl rfl
  · rw [if_neg h0]
    have hb := hd.1 (32 + (16 * i) + 10)
    refine eR.ifc rfl false ((nc_ne (b := 0) (by rw [bi_f h0]; decide) (by decide)).trans (decide_eq_false (by rw [bi_f h0]; decide))) ?_
    refine eR.step 4 (F' := (62, [(0, .ref 8), (1, .int (nI (i))), (2, .int (nI (u))), (3, .int (nI (w))), (4, .int (x))], [.int (nI (i)), .ref 8, .ref 7])) (h' := (Gc L xs A B U V S d X)) (fun _ _ => rfl) ?_
    refine eR.call (k' := 19) (as := [.ref 8, .int (nI (i))]) (rest := [.ref 7]) (v := some (.int (nI (d (32 + (16 * i) + 10))))) (h1 := (Gc L xs A B U V S d X)) rfl rfl rfl rfl (eg (Nat.le_of_ble_eq_true rfl) (show 21 ≤ lo by omega) (Nat.le_of_ble_eq_true rfl)) (c_indirect (show 21 ≤ lo - 21 by omega) hd hi) ?_
    refine eR.call (k' := 90) (as := [.ref 7, .int (nI (d (32 + (16 * i) + 10)))]) (rest := []) (v := none) (h1 := (Gc L xs A B U V S (gb_7 d (d (32 + (16 * i) + 10))) X)) rfl rfl rfl rfl (eg (Nat.le_of_ble_eq_true rfl) (show 21 ≤ lo by omega) (Nat.le_of_ble_eq_true rfl)) (c_give_7 (show 23 ≤ lo - 21 by omega) hd (by omega)) ?_
    refine eR.step 3 (F' := (73, [(0, .ref 8), (1, .int (nI (i))), (2, .int (nI (u))), (3, .int (nI (w))), (4, .int (x))], [.int (nI (i)), .ref 4])) (h' := (Gc L xs A B U V S (gb_7 d (d (32 + (16 * i) + 10))) X)) (fun _ _ => rfl) ?_
    refine eR.call (k' := 16) (as := [.int (nI (i))]) (rest := [.ref 4]) (v := some (.int (nI (32 + (16 * i))))) (h1 := (Gc L xs A B U V S (gb_7 d (d (32 + (16 * i) + 10))) X)) rfl rfl rfl rfl (eg (Nat.le_of_ble_eq_true rfl) (show 20 ≤ lo by omega) (Nat.le_of_ble_eq_true rfl)) (c_start) ?_
    refine eR.step 1 (F' := (78, [(0, .ref 8), (1, .int (nI (i))), (2, .int (nI (u))), (3, .int (nI (w))), (4, .int (x))], [.int (nI 10), .int (nI (32 + (16 * i))), .ref 4])) (h' := (Gc L xs A B U V S (gb_7 d (d (32 + (16 * i) + 10))) X)) (fun _ _ => rfl) ?_
    refine eR.nadd rfl ?_
    refine eR.step 1 (F' := (80, [(0, .ref 8), (1, .int (nI (i))), (2, .int (nI (u))), (3, .int (nI (w))), (4, .int (x))], [.int (nI 0), .int (nI ((32 + (16 * i)) + 10)), .ref 4])) (h' := (Gc L xs A B U V S (gb_7 d (d (32 + (16 * i) + 10))) X)) (fun _ _ => rfl) ?_
    refine eR.call (k' := 10) (as := [.ref 4, .int (nI ((32 + (16 * i)) + 10)), .int (nI 0)]) (rest := []) (v := none) (h1 := (Gc L xs A B U V S (dp (gb_7 d (d (32 + (16 * i) + 10))) (32 + (16 * i) + 10) 0) X)) rfl rfl rfl rfl (eg (Nat.le_of_ble_eq_true rfl) (show 22 ≤ lo by omega) (Nat.le_of_ble_eq_true rfl)) (c_put (by omega)) ?_
    exact eR.ret rfl rfl rfl
theorem l_dropL {cm sm fr lo L : Nat} {xs : Nat → Int32} {A B : gT} {U V : gU} {S : gS} {X : mj_H} (hlo : 88 ≤ lo) {i : Nat} (hi : i < 2 ^ 20) {u : Nat} : ∀ (q : Nat) (d : Nat → Nat) (w : Nat) (x : Int32), dk d → w + q = 38 → eR mm_P cm sm (fr + 4) lo 89 (2, [(0, .ref 8), (1, .int (nI (i))), (2, .int (nI (u))), (3, .int (nI (w))), (4, .int (x))], []) (Gc L xs A B U V S d X) (.inl none, Gc L xs A B U V S (d2 (dl i d w q) i) X)
  | 0, d, w, x, hd, hm => by
    refine eR.step 2 (F' := (5, [(0, .ref 8), (1, .int (nI (i))), (2, .int (nI (u))), (3, .int (nI (w))), (4, .int (x))], [.int (nI 38), .int (nI (w))])) (h' := (Gc L xs A B U V S d X)) (fun _ _ => rfl) ?_
    refine eR.icmp rfl true ((nc_ge (by omega) (by decide)).trans (decide_eq_true (by omega))) ?_
    exact l_dropB hlo hd hi
  | q + 1, d, w, x, hd, hm => by
    have hb := bo_lt hd i w
    refine eR.step 2 (F' := (5, [(0, .ref 8), (1, .int (nI (i))), (2, .int (nI (u))), (3, .int (nI (w))), (4, .int (x))], [.int (nI 38), .int (nI (w))])) (h' := (Gc L xs A B U V S d X)) (fun _ _ => rfl) ?_
    refine eR.icmp rfl false ((nc_ge (by omega) (by decide)).trans (decide_eq_false (by omega))) ?_
    refine eR.step 3 (F' := (11, [(0, .ref 8), (1, .int (nI (i))), (2, .int (nI (u))), (3, .int (nI (w))), (4, .int (x))], [.int (nI (w)), .int (nI (i)), .ref 8])) (h' := (Gc L xs A B U V S d X)) (fun _ _ => rfl) ?_
    refine eR.call (k' := 22) (as := [.ref 8, .int (nI (i)), .int (nI (w))]) (rest := []) (v := some (.int (ei (eo d i w)))) (h1 := (Gc L xs A B U V S d X)) rfl rfl rfl rfl (eg (Nat.le_of_ble_eq_true rfl) (show 23 ≤ lo by omega) (Nat.le_of_ble_eq_true rfl)) (c_entryOf (show 21 ≤ lo - 23 by omega) hd hi (by omega)) ?_
    refine eR.step 6 (F' := (26, [(0, .ref 8), (1, .int (nI (i))), (2, .int (nI (u))), (3, .int (nI (w))), (4, .int (ei (eo d i w)))], [.int (ei (eo d i w)), .ref 4, .ref 7])) (h' := (Gc L xs A B U V S d X)) (fun _ _ => rfl) ?_
    refine eR.call (k' := 20) (as := [.ref 4, .int (ei (eo d i w))]) (rest := [.ref 7]) (v := some (.int (nI (bo d i w)))) (h1 := (Gc L xs A B U V S d X)) rfl rfl rfl rfl (eg (Nat.le_of_ble_eq_true rfl) (show 21 ≤ lo by omega) (Nat.le_of_ble_eq_true rfl)) (c_get_o hd (eo_lt hd hi (by omega))) ?_
    refine eR.call (k' := 90) (as := [.ref 7, .int (nI (bo d i w))]) (rest := []) (v := none) (h1 := (Gc L xs A B U V S (gb_7 d (bo d i w)) X)) rfl rfl rfl rfl (eg (Nat.le_of_ble_eq_true rfl) (show 21 ≤ lo by omega) (Nat.le_of_ble_eq_true rfl)) (c_give_7 (show 23 ≤ lo - 21 by omega) hd (by omega)) ?_
    refine eR.step 4 (F' := (39, [(0, .ref 8), (1, .int (nI (i))), (2, .int (nI (u))), (3, .int (nI (w))), (4, .int (ei (eo d i w)))], [.int (nI 0), .int (ei (eo d i w)), .ref 4])) (h' := (Gc L xs A B U V S (gb_7 d (bo d i w)) X)) (fun _ _ => rfl) ?_
    refine eR.call (k' := 10) (as := [.ref 4, .int (ei (eo d i w)), .int (nI 0)]) (rest := []) (v := none) (h1 := (Gc L xs A B U V S (d1 d i w) X)) rfl rfl rfl rfl (eg (Nat.le_of_ble_eq_true rfl) (show 22 ≤ lo by omega) (Nat.le_of_ble_eq_true rfl)) (c_put_o (eo_lt hd hi (by omega))) ?_
    refine eR.step 1 (F' := (45, [(0, .ref 8), (1, .int (nI (i))), (2, .int (nI (u))), (3, .int (nI (w) + 1)), (4, .int (ei (eo d i w)))], [])) (h' := (Gc L xs A B U V S (d1 d i w) X)) (fun _ _ => rfl) ?_
    rw [show nI (w) + 1 = nI (w + 1) from nI_add (w) 1]
    refine eR.step 1 (F' := (2, [(0, .ref 8), (1, .int (nI (i))), (2, .int (nI (u))), (3, .int (nI (w + 1))), (4, .int (ei (eo d i w)))], [])) (h' := (Gc L xs A B U V S (d1 d i w) X)) (fun _ _ => rfl) ?_
    exact l_dropL hlo hi q (d1 d i w) (w + 1) _ (d1_dk hd i w) (by omega)
theorem c_drop {cm sm fr lo L : Nat} {xs : Nat → Int32} {A B : gT} {U V : gU} {S : gS} {d : Nat → Nat} {X : mj_H} (hlo : 88 ≤ lo) (hd : dk d) {i : Nat} (hi : i < 2 ^ 20) {u : Nat} (hu : u < 2 ^ 20) : eE mm_P cm sm (fr + 5) lo 89 [.ref 8, .int (nI (i)), .int (nI (u))] (Gc L xs A B U V S d X) (.inl (none), Gc L xs A B U V S (dr d i u) X) := by
  refine eE.of ?_
  refine eR.step 2 (F' := (2, [(0, .ref 8), (1, .int (nI (i))), (2, .int (nI (u))), (3, .int (nI (u)))], [])) (h' := (Gc L xs A B U V S d X)) (fun _ _ => rfl) ?_
  unfold dr
  by_cases h : 38 ≤ u
  · rw [show 38 - u = 0 by omega]
    refine eR.step 2 (F' := (5, [(0, .ref 8), (1, .int (nI (i))), (2, .int (nI (u))), (3, .int (nI (u)))], [.int (nI 38), .int (nI (u))])) (h' := (Gc L xs A B U V S d X)) (fun _ _ => rfl) ?_
    refine eR.icmp rfl true ((nc_ge (by omega) (by decide)).trans (decide_eq_true (by omega))) ?_
    exact l_dropA hlo hd hi
  · obtain ⟨q, hq⟩ : ∃ q, 38 - u = q + 1 := ⟨37 - u, by omega⟩
    rw [hq]
    have hb := bo_lt hd i u
    refine eR.step 2 (F' := (5, [(0, .ref 8), (1, .int (nI (i))), (2, .int (nI (u))), (3, .int (nI (u)))], [.int (nI 38), .int (nI (u))])) (h' := (Gc L xs A B U V S d X)) (fun _ _ => rfl) ?_
    refine eR.icmp rfl false ((nc_ge (by omega) (by decide)).trans (decide_eq_false (by omega))) ?_
    refine eR.step 3 (F' := (11, [(0, .ref 8), (1, .int (nI (i))), (2, .int (nI (u))), (3, .int (nI (u)))], [.int (nI (u)), .int (nI (i)), .ref 8])) (h' := (Gc L xs A B U V S d X)) (fun _ _ => rfl) ?_
    refine eR.call (k' := 22) (as := [.ref 8, .int (nI (i)), .int (nI (u))]) (rest := []) (v := some (.int (ei (eo d i u)))) (h1 := (Gc L xs A B U V S d X)) rfl rfl rfl rfl (eg (Nat.le_of_ble_eq_true rfl) (show 23 ≤ lo by omega) (Nat.le_of_ble_eq_true rfl)) (c_entryOf (show 21 ≤ lo - 23 by omega) hd hi (by omega)) ?_
    refine eR.step 6 (F' := (26, [(0, .ref 8), (1, .int (nI (i))), (2, .int (nI (u))), (3, .int (nI (u))), (4, .int (ei (eo d i u)))], [.int (ei (eo d i u)), .ref 4, .ref 7])) (h' := (Gc L xs A B U V S d X)) (fun _ _ => rfl) ?_
    refine eR.call (k' := 20) (as := [.ref 4, .int (ei (eo d i u))]) (rest := [.ref 7]) (v := some (.int (nI (bo d i u)))) (h1 := (Gc L xs A B U V S d X)) rfl rfl rfl rfl (eg (Nat.le_of_ble_eq_true rfl) (show 21 ≤ lo by omega) (Nat.le_of_ble_eq_true rfl)) (c_get_o hd (eo_lt hd hi (by omega))) ?_
    refine eR.call (k' := 90) (as := [.ref 7, .int (nI (bo d i u))]) (rest := []) (v := none) (h1 := (Gc L xs A B U V S (gb_7 d (bo d i u)) X)) rfl rfl rfl rfl (eg (Nat.le_of_ble_eq_true rfl) (show 21 ≤ lo by omega) (Nat.le_of_ble_eq_true rfl)) (c_give_7 (show 23 ≤ lo - 21 by omega) hd (by omega)) ?_
    refine eR.step 4 (F' := (39, [(0, .ref 8), (1, .int (nI (i))), (2, .int (nI (u))), (3, .int (nI (u))), (4, .int (ei (eo d i u)))], [.int (nI 0), .int (ei (eo d i u)), .ref 4])) (h' := (Gc L xs A B U V S (gb_7 d (bo d i u)) X)) (fun _ _ => rfl) ?_
    refine eR.call (k' := 10) (as := [.ref 4, .int (ei (eo d i u)), .int (nI 0)]) (rest := []) (v := none) (h1 := (Gc L xs A B U V S (d1 d i u) X)) rfl rfl rfl rfl (eg (Nat.le_of_ble_eq_true rfl) (show 22 ≤ lo by omega) (Nat.le_of_ble_eq_true rfl)) (c_put_o (eo_lt hd hi (by omega))) ?_
    refine eR.step 1 (F' := (45, [(0, .ref 8), (1, .int (nI (i))), (2, .int (nI (u))), (3, .int (nI (u) + 1)), (4, .int (ei (eo d i u)))], [])) (h' := (Gc L xs A B U V S (d1 d i u) X)) (fun _ _ => rfl) ?_
    rw [show nI (u) + 1 = nI (u + 1) from nI_add (u) 1]
    refine eR.step 1 (F' := (2, [(0, .ref 8), (1, .int (nI (i))), (2, .int (nI (u))), (3, .int (nI (u + 1))), (4, .int (ei (eo d i u)))], [])) (h' := (Gc L xs A B U V S (d1 d i u) X)) (fun _ _ => rfl) ?_
    exact l_dropL hlo hi q (d1 d i u) (u + 1) _ (d1_dk hd i u) (by omega)
def gi (d : Nat → Nat) (i : Nat) : Nat → Nat := gb_6 (cz (dr d i 0) (32 + (16 * i)) 16) i
theorem gi_dk {d : Nat → Nat} (h : dk d) (i : Nat) : dk (gi d i) := gb6_dk (cz_dk (dr_dk h i 0) _ _) i
theorem c_giveBack {cm sm fr lo L : Nat} {xs : Nat → Int32} {A B : gT} {U V : gU} {S : gS} {d : Nat → Nat} {X : mj_H} (hlo : 112 ≤ lo) (hd : dk d) {i : Nat} (hi : i < 2 ^ 15) : eE mm_P cm sm (fr + 6) lo 88 [.ref 8, .int (nI (i))] (Gc L xs A B U V S d X) (.inl (none), Gc L xs A B U V S (gi d i) X) := by
  refine eE.of ?_
  refine eR.step 3 (F' := (3, [(0, .ref 8), (1, .int (nI (i)))], [.int (nI 0), .int (nI (i)), .ref 8])) (h' := (Gc L xs A B U V S d X)) (fun _ _ => rfl) ?_
  refine eR.call (k' := 89) (as := [.ref 8, .int (nI (i)), .int (nI 0)]) (rest := []) (v := none) (h1 := (Gc L xs A B U V S (dr d i 0) X)) rfl rfl rfl rfl (eg (Nat.le_of_ble_eq_true rfl) (show 24 ≤ lo by omega) (Nat.le_of_ble_eq_true rfl)) (c_drop (show 88 ≤ lo - 24 by omega) hd (by omega) (by decide)) ?_
  refine eR.step 3 (F' := (11, [(0, .ref 8), (1, .int (nI (i)))], [.int (nI (i)), .ref 4])) (h' := (Gc L xs A B U V S (dr d i 0) X)) (fun _ _ => rfl) ?_
  refine eR.call (k' := 16) (as := [.int (nI (i))]) (rest := [.ref 4]) (v := some (.int (nI (32 + (16 * i))))) (h1 := (Gc L xs A B U V S (dr d i 0) X)) rfl rfl rfl rfl (eg (Nat.le_of_ble_eq_true rfl) (show 20 ≤ lo by omega) (Nat.le_of_ble_eq_true rfl)) (c_start) ?_
  refine eR.step 1 (F' := (16, [(0, .ref 8), (1, .int (nI (i)))], [.int (nI 16), .int (nI (32 + (16 * i))), .ref 4])) (h' := (Gc L xs A B U V S (dr d i 0) X)) (fun _ _ => rfl) ?_
  refine eR.call (k' := 9) (as := [.ref 4, .int (nI (32 + (16 * i))), .int (nI 16)]) (rest := []) (v := none) (h1 := (Gc L xs A B U V S (cz (dr d i 0) (32 + (16 * i)) 16) X)) rfl rfl rfl rfl (eg (Nat.le_of_ble_eq_true rfl) (show 23 ≤ lo by omega) (Nat.le_of_ble_eq_true rfl)) (c_clear (show 22 ≤ lo - 23 by omega) (dr_dk hd i 0) (by omega) (by decide)) ?_
  refine eR.step 3 (F' := (24, [(0, .ref 8), (1, .int (nI (i)))], [.int (nI (i)), .ref 6])) (h' := (Gc L xs A B U V S (cz (dr d i 0) (32 + (16 * i)) 16) X)) (fun _ _ => rfl) ?_
  refine eR.call (k' := 90) (as := [.ref 6, .int (nI (i))]) (rest := []) (v := none) (h1 := (Gc L xs A B U V S (gi d i) X)) rfl rfl rfl rfl (eg (Nat.le_of_ble_eq_true rfl) (show 21 ≤ lo by omega) (Nat.le_of_ble_eq_true rfl)) (c_give_6 (show 23 ≤ lo - 21 by omega) (cz_dk (dr_dk hd i 0) _ _) (by omega)) ?_
  exact eR.ret rfl rfl rfl

