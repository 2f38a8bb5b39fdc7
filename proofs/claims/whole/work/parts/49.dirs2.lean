theorem sb_small : ∀ {n : Nat}, n < 128 → sb n = nI n := by
  intro n h
  have key : ∀ n, n < 128 → sb n = nI n := by decide +kernel
  exact key n h
def n0 : Nat → Nat := fun j => if j = 0 then 46 else 0
def n1 : Nat → Nat := fun j => if j = 0 then 46 else if j = 1 then 46 else 0
theorem n0_eq (k : Nat) : mm_f0 k = nI (n0 k) := by
  unfold mm_f0 n0
  split <;> rfl
theorem n1_eq (k : Nat) : mm_f1 k = nI (n1 k) := by
  unfold mm_f1 n1
  split
  · rfl
  · split <;> rfl
/-- whether the n letters from k on of the name in the slot at a are nm's -/
def nq (d : Nat → Nat) (a : Nat) (nm : Nat → Nat) : Nat → Nat → Bool
  | _, 0 => true
  | k, n + 1 => if d (a + 1 + k) = nm k then nq d a nm (k + 1) n else false
/-- the first one of n slots from j on with that name, or 0 -/
def fd (d : Nat → Nat) (i : Nat) (nm : Nat → Nat) : Nat → Nat → Nat
  | _, 0 => 0
  | j, n + 1 => if si d i j ≠ 0 ∧ nq d (sa d i j) nm 0 7 = true then j else fd d i nm (j + 1) n
theorem fd_lt (d : Nat → Nat) (i : Nat) (nm : Nat → Nat) (b : Nat) (hb : 0 < b) : ∀ n j, j + n ≤ b → fd d i nm j n < b
  | 0, _, _ => hb
  | n + 1, j, h => by
    unfold fd
    split
    · omega
    · exact fd_lt d i nm b hb n (j + 1) (by omega)
/-- n letters of a name from k on written into the slot at a -/
def wn (a : Nat) (nm : Nat → Nat) : (Nat → Nat) → Nat → Nat → (Nat → Nat)
  | d, _, 0 => d
  | d, k, n + 1 => wn a nm (dp d (a + 1 + k) (nm k)) (k + 1) n
theorem wn_dk (a : Nat) (nm : Nat → Nat) : ∀ (n : Nat) (d : Nat → Nat) (k : Nat), dk d → dk (wn a nm d k n)
  | 0, _, _, h => h
  | n + 1, d, k, h => wn_dk a nm n _ (k + 1) (dp_dk h _ _)
/-- a slot filled -/
def fl (d : Nat → Nat) (i j v : Nat) (nm : Nat → Nat) : Nat → Nat := al (wn (sa d i j) nm (dp d (sa d i j) v) 0 7) v 1
theorem fl_dk {d : Nat → Nat} (h : dk d) (i j v : Nat) (nm : Nat → Nat) : dk (fl d i j v nm) := al_dk (wn_dk _ _ _ _ _ (dp_dk h _ _)) _ _
theorem l_hasName_20 {cm sm fr lo L : Nat} {xs : Nat → Int32} {A B : gT} {U V : gU} {S : gS} {d : Nat → Nat} {X : mj_H} (hlo : 21 ≤ lo) (hd : dk d) (hn : ∀ k, U.2.2.2 k < 128) {a : Nat} (ha : a < 2 ^ 20) : ∀ q k : Nat, k + q = 7 → eR mm_P cm sm (fr + 1) lo 71 (2, [(0, .ref 9), (1, .int (nI (a))), (2, .ref 20), (3, .int (nI (k)))], []) (Gc L xs A B U V S d X) (.inl (some (.int (nI (bi (nq d a (U.2.2.2) k q))))), Gc L xs A B U V S d X)
  | 0, k, hk => by
    refine eR.step 3 (F' := (5, [(0, .ref 9), (1, .int (nI (a))), (2, .ref 20), (3, .int (nI (k)))], [.int (nI 7), .int (nI (k))])) (h' := (Gc L xs A B U V S d X)) (fun _ _ => rfl) ?_
    refine eR.icmp rfl true ((nc_ge (by omega) (by decide)).trans (decide_eq_true (by omega))) ?_
    refine eR.step 1 (F' := (35, [(0, .ref 9), (1, .int (nI (a))), (2, .ref 20), (3, .int (nI (k)))], [.int (nI 1)])) (h' := (Gc L xs A B U V S d X)) (fun _ _ => rfl) ?_
    exact eR.ret rfl rfl rfl
  | q + 1, k, hk => by
    have hb := hd.1 (a + 1 + k)
    have hn1 := hn k
    unfold nq
    refine eR.step 3 (F' := (5, [(0, .ref 9), (1, .int (nI (a))), (2, .ref 20), (3, .int (nI (k)))], [.int (nI 7), .int (nI (k))])) (h' := (Gc L xs A B U V S d X)) (fun _ _ => rfl) ?_
    refine eR.icmp rfl false ((nc_ge (by omega) (by decide)).trans (decide_eq_false (by omega))) ?_
    refine eR.step 4 (F' := (14, [(0, .ref 9), (1, .int (nI (a))), (2, .ref 20), (3, .int (nI (k)))], [.int (nI 1), .int (nI (a)), .ref 4])) (h' := (Gc L xs A B U V S d X)) (fun _ _ => rfl) ?_
    refine eR.nadd rfl ?_
    refine eR.step 1 (F' := (16, [(0, .ref 9), (1, .int (nI (a))), (2, .ref 20), (3, .int (nI (k)))], [.int (nI (k)), .int (nI (a + 1)), .ref 4])) (h' := (Gc L xs A B U V S d X)) (fun _ _ => rfl) ?_
    refine eR.nadd rfl ?_
    refine eR.call (k' := 20) (as := [.ref 4, .int (nI ((a + 1) + k))]) (rest := []) (v := some (.int (nI (d (a + 1 + k))))) (h1 := (Gc L xs A B U V S d X)) rfl rfl rfl rfl (eg (Nat.le_of_ble_eq_true rfl) (show 21 ≤ lo by omega) (Nat.le_of_ble_eq_true rfl)) (c_get hd (by omega)) ?_
    refine eR.step 2 (F' := (22, [(0, .ref 9), (1, .int (nI (a))), (2, .ref 20), (3, .int (nI (k)))], [.int (nI (k)), .ref 20, .int (nI (d (a + 1 + k)))])) (h' := (Gc L xs A B U V S d X)) (fun _ _ => rfl) ?_
    refine eR.sim rfl (F := (23, [(0, .ref 9), (1, .int (nI (a))), (2, .ref 20), (3, .int (nI (k)))], [.int (nI (U.2.2.2 k)), .int (nI (d (a + 1 + k)))])) (h' := (Gc L xs A B U V S d X)) (by simp [mj_sim, mj_ar, mj_gi, Gc, na_ix (show k < 7 by omega) (by decide), sb_small (hn k)]) ?_
    by_cases h0 : d (a + 1 + k) = U.2.2.2 k
    · rw [if_pos h0]
      refine eR.icmp rfl true ((nc_eq (by omega) (by omega)).trans (decide_eq_true (by omega))) ?_
      refine eR.step 1 (F' := (31, [(0, .ref 9), (1, .int (nI (a))), (2, .ref 20), (3, .int (nI (k) + 1))], [])) (h' := (Gc L xs A B U V S d X)) (fun _ _ => rfl) ?_
      rw [show nI (k) + 1 = nI (k + 1) from nI_add (k) 1]
      refine eR.step 1 (F' := (2, [(0, .ref 9), (1, .int (nI (a))), (2, .ref 20), (3, .int (nI (k + 1)))], [])) (h' := (Gc L xs A B U V S d X)) (fun _ _ => rfl) ?_
      exact l_hasName_20 hlo hd hn ha q (k + 1) (by omega)
    · rw [if_neg h0]
      refine eR.icmp rfl false ((nc_eq (by omega) (by omega)).trans (decide_eq_false (by omega))) ?_
      refine eR.step 1 (F' := (27, [(0, .ref 9), (1, .int (nI (a))), (2, .ref 20), (3, .int (nI (k)))], [.int (nI 0)])) (h' := (Gc L xs A B U V S d X)) (fun _ _ => rfl) ?_
      exact eR.ret rfl rfl rfl
theorem c_hasName_20 {cm sm fr lo L : Nat} {xs : Nat → Int32} {A B : gT} {U V : gU} {S : gS} {d : Nat → Nat} {X : mj_H} (hlo : 21 ≤ lo) (hd : dk d) (hn : ∀ k, U.2.2.2 k < 128) {a : Nat} (ha : a < 2 ^ 20) : eE mm_P cm sm (fr + 2) lo 71 [.ref 9, .int (nI (a)), .ref 20] (Gc L xs A B U V S d X) (.inl (some (.int (nI (bi (nq d a (U.2.2.2) 0 7))))), Gc L xs A B U V S d X) := by
  refine eE.of ?_
  refine eR.step 2 (F' := (2, [(0, .ref 9), (1, .int (nI (a))), (2, .ref 20), (3, .int (nI 0))], [])) (h' := (Gc L xs A B U V S d X)) (fun _ _ => rfl) ?_
  exact l_hasName_20 hlo hd hn ha 7 0 (by decide)
theorem l_find_20 {cm sm fr lo L : Nat} {xs : Nat → Int32} {A B : gT} {U V : gU} {S : gS} {d : Nat → Nat} {X : mj_H} (hlo : 64 ≤ lo) (hd : dk d) (hn : ∀ k, U.2.2.2 k < 128) {i : Nat} (hi : i < 2 ^ 20) {m : Nat} (hm : m ≤ 24) : ∀ (q j : Nat) (x : Int32), m - j = q → j < 2 ^ 19 → eR mm_P cm sm (fr + 3) lo 70 (9, [(0, .ref 9), (1, .int (nI (i))), (2, .ref 20), (3, .int (nI (m))), (4, .int (nI (j))), (5, .int (x))], []) (Gc L xs A B U V S d X) (.inl (some (.int (nI (fd d i (U.2.2.2) j q)))), Gc L xs A B U V S d X)
  | 0, j, x, hq, hj => by
    refine eR.step 2 (F' := (12, [(0, .ref 9), (1, .int (nI (i))), (2, .ref 20), (3, .int (nI (m))), (4, .int (nI (j))), (5, .int (x))], [.int (nI (m)), .int (nI (j))])) (h' := (Gc L xs A B U V S d X)) (fun _ _ => rfl) ?_
    refine eR.icmp rfl true ((nc_ge (by omega) (by omega)).trans (decide_eq_true (by omega))) ?_
    refine eR.step 1 (F' := (56, [(0, .ref 9), (1, .int (nI (i))), (2, .ref 20), (3, .int (nI (m))), (4, .int (nI (j))), (5, .int (x))], [.int (nI 0)])) (h' := (Gc L xs A B U V S d X)) (fun _ _ => rfl) ?_
    exact eR.ret rfl rfl rfl
  | q + 1, j, x, hq, hj => by
    have hb : si d i j < 256 := hd.1 _
    have hs := sa_lt hd i j
    unfold fd
    refine eR.step 2 (F' := (12, [(0, .ref 9), (1, .int (nI (i))), (2, .ref 20), (3, .int (nI (m))), (4, .int (nI (j))), (5, .int (x))], [.int (nI (m)), .int (nI (j))])) (h' := (Gc L xs A B U V S d X)) (fun _ _ => rfl) ?_
    refine eR.icmp rfl false ((nc_ge (by omega) (by omega)).trans (decide_eq_false (by omega))) ?_
    refine eR.step 3 (F' := (19, [(0, .ref 9), (1, .int (nI (i))), (2, .ref 20), (3, .int (nI (m))), (4, .int (nI (j))), (5, .int (x))], [.int (nI (j)), .int (nI (i)), .ref 9])) (h' := (Gc L xs A B U V S d X)) (fun _ _ => rfl) ?_
    refine eR.call (k' := 25) (as := [.ref 9, .int (nI (i)), .int (nI (j))]) (rest := []) (v := some (.int (nI (sa d i j)))) (h1 := (Gc L xs A B U V S d X)) rfl rfl rfl rfl (eg (Nat.le_of_ble_eq_true rfl) (show 23 ≤ lo by omega) (Nat.le_of_ble_eq_true rfl)) (c_slotAt (show 21 ≤ lo - 23 by omega) hd hi (by omega)) ?_
    refine eR.step 4 (F' := (30, [(0, .ref 9), (1, .int (nI (i))), (2, .ref 20), (3, .int (nI (m))), (4, .int (nI (j))), (5, .int (nI (sa d i j)))], [.int (nI (sa d i j)), .ref 4])) (h' := (Gc L xs A B U V S d X)) (fun _ _ => rfl) ?_
    refine eR.call (k' := 20) (as := [.ref 4, .int (nI (sa d i j))]) (rest := []) (v := some (.int (nI (si d i j)))) (h1 := (Gc L xs A B U V S d X)) rfl rfl rfl rfl (eg (Nat.le_of_ble_eq_true rfl) (show 21 ≤ lo by omega) (Nat.le_of_ble_eq_true rfl)) (c_get hd (by omega)) ?_
    by_cases h0 : si d i j = 0
    · rw [if_neg (fun z => z.1 h0)]
      refine eR.ifc rfl true ((nc_eq (b := 0) (by omega) (by decide)).trans (decide_eq_true (by omega))) ?_
      refine eR.step 1 (F' := (52, [(0, .ref 9), (1, .int (nI (i))), (2, .ref 20), (3, .int (nI (m))), (4, .int (nI (j) + 1)), (5, .int (nI (sa d i j)))], [])) (h' := (Gc L xs A B U V S d X)) (fun _ _ => rfl) ?_
      rw [show nI (j) + 1 = nI (j + 1) from nI_add (j) 1]
      refine eR.step 1 (F' := (9, [(0, .ref 9), (1, .int (nI (i))), (2, .ref 20), (3, .int (nI (m))), (4, .int (nI (j + 1))), (5, .int (nI (sa d i j)))], [])) (h' := (Gc L xs A B U V S d X)) (fun _ _ => rfl) ?_
      exact l_find_20 hlo hd hn hi hm q (j + 1) _ (by omega) (by omega)
    · refine eR.ifc rfl false ((nc_eq (b := 0) (by omega) (by decide)).trans (decide_eq_false (by omega))) ?_
      refine eR.step 3 (F' := (40, [(0, .ref 9), (1, .int (nI (i))), (2, .ref 20), (3, .int (nI (m))), (4, .int (nI (j))), (5, .int (nI (sa d i j)))], [.ref 20, .int (nI (sa d i j)), .ref 9])) (h' := (Gc L xs A B U V S d X)) (fun _ _ => rfl) ?_
      refine eR.call (k' := 71) (as := [.ref 9, .int (nI (sa d i j)), .ref 20]) (rest := []) (v := some (.int (nI (bi (nq d (sa d i j) (U.2.2.2) 0 7))))) (h1 := (Gc L xs A B U V S d X)) rfl rfl rfl rfl (eg (Nat.le_of_ble_eq_true rfl) (show 23 ≤ lo by omega) (Nat.le_of_ble_eq_true rfl)) (c_hasName_20 (show 21 ≤ lo - 23 by omega) hd hn (by omega)) ?_
      by_cases h1 : nq d (sa d i j) (U.2.2.2) 0 7 = true
      · rw [if_pos ⟨h0, h1⟩]
        refine eR.ifc rfl false ((nc_eq (b := 0) (by rw [bi_t h1]; decide) (by decide)).trans (decide_eq_false (by rw [bi_t h1]; decide))) ?_
        refine eR.step 1 (F' := (48, [(0, .ref 9), (1, .int (nI (i))), (2, .ref 20), (3, .int (nI (m))), (4, .int (nI (j))), (5, .int (nI (sa d i j)))], [.int (nI (j))])) (h' := (Gc L xs A B U V S d X)) (fun _ _ => rfl) ?_
        exact eR.ret rfl rfl rfl
      · rw [if_neg (fun z => h1 z.2)]
        refine eR.ifc rfl true ((nc_eq (b := 0) (by rw [bi_f h1]; decide) (by decide)).trans (decide_eq_true (by rw [bi_f h1]))) ?_
        refine eR.step 1 (F' := (52, [(0, .ref 9), (1, .int (nI (i))), (2, .ref 20), (3, .int (nI (m))), (4, .int (nI (j) + 1)), (5, .int (nI (sa d i j)))], [])) (h' := (Gc L xs A B U V S d X)) (fun _ _ => rfl) ?_
        rw [show nI (j) + 1 = nI (j + 1) from nI_add (j) 1]
        refine eR.step 1 (F' := (9, [(0, .ref 9), (1, .int (nI (i))), (2, .ref 20), (3, .int (nI (m))), (4, .int (nI (j + 1))), (5, .int (nI (sa d i j)))], [])) (h' := (Gc L xs A B U V S d X)) (fun _ _ => rfl) ?_
        exact l_find_20 hlo hd hn hi hm q (j + 1) _ (by omega) (by omega)
theorem l_find0_20 {cm sm fr lo L : Nat} {xs : Nat → Int32} {A B : gT} {U V : gU} {S : gS} {d : Nat → Nat} {X : mj_H} (hlo : 64 ≤ lo) (hd : dk d) (hn : ∀ k, U.2.2.2 k < 128) {i : Nat} (hi : i < 2 ^ 20) {m : Nat} (hm : m ≤ 24) : ∀ (q j : Nat), m - j = q → j < 2 ^ 19 → eR mm_P cm sm (fr + 3) lo 70 (9, [(0, .ref 9), (1, .int (nI (i))), (2, .ref 20), (3, .int (nI (m))), (4, .int (nI (j)))], []) (Gc L xs A B U V S d X) (.inl (some (.int (nI (fd d i (U.2.2.2) j q)))), Gc L xs A B U V S d X)
  | 0, j, hq, hj => by
    refine eR.step 2 (F' := (12, [(0, .ref 9), (1, .int (nI (i))), (2, .ref 20), (3, .int (nI (m))), (4, .int (nI (j)))], [.int (nI (m)), .int (nI (j))])) (h' := (Gc L xs A B U V S d X)) (fun _ _ => rfl) ?_
    refine eR.icmp rfl true ((nc_ge (by omega) (by omega)).trans (decide_eq_true (by omega))) ?_
    refine eR.step 1 (F' := (56, [(0, .ref 9), (1, .int (nI (i))), (2, .ref 20), (3, .int (nI (m))), (4, .int (nI (j)))], [.int (nI 0)])) (h' := (Gc L xs A B U V S d X)) (fun _ _ => rfl) ?_
    exact eR.ret rfl rfl rfl
  | q + 1, j, hq, hj => by
    have hb : si d i j < 256 := hd.1 _
    have hs := sa_lt hd i j
    unfold fd
    refine eR.step 2 (F' := (12, [(0, .ref 9), (1, .int (nI (i))), (2, .ref 20), (3, .int (nI (m))), (4, .int (nI (j)))], [.int (nI (m)), .int (nI (j))])) (h' := (Gc L xs A B U V S d X)) (fun _ _ => rfl) ?_
    refine eR.icmp rfl false ((nc_ge (by omega) (by omega)).trans (decide_eq_false (by omega))) ?_
    refine eR.step 3 (F' := (19, [(0, .ref 9), (1, .int (nI (i))), (2, .ref 20), (3, .int (nI (m))), (4, .int (nI (j)))], [.int (nI (j)), .int (nI (i)), .ref 9])) (h' := (Gc L xs A B U V S d X)) (fun _ _ => rfl) ?_
    refine eR.call (k' := 25) (as := [.ref 9, .int (nI (i)), .int (nI (j))]) (rest := []) (v := some (.int (nI (sa d i j)))) (h1 := (Gc L xs A B U V S d X)) rfl rfl rfl rfl (eg (Nat.le_of_ble_eq_true rfl) (show 23 ≤ lo by omega) (Nat.le_of_ble_eq_true rfl)) (c_slotAt (show 21 ≤ lo - 23 by omega) hd hi (by omega)) ?_
    refine eR.step 4 (F' := (30, [(0, .ref 9), (1, .int (nI (i))), (2, .ref 20), (3, .int (nI (m))), (4, .int (nI (j))), (5, .int (nI (sa d i j)))], [.int (nI (sa d i j)), .ref 4])) (h' := (Gc L xs A B U V S d X)) (fun _ _ => rfl) ?_
    refine eR.call (k' := 20) (as := [.ref 4, .int (nI (sa d i j))]) (rest := []) (v := some (.int (nI (si d i j)))) (h1 := (Gc L xs A B U V S d X)) rfl rfl rfl rfl (eg (Nat.le_of_ble_eq_true rfl) (show 21 ≤ lo by omega) (Nat.le_of_ble_eq_true rfl)) (c_get hd (by omega)) ?_
    by_cases h0 : si d i j = 0
    · rw [if_neg (fun z => z.1 h0)]
      refine eR.ifc rfl true ((nc_eq (b := 0) (by omega) (by decide)).trans (decide_eq_true (by omega))) ?_
      refine eR.step 1 (F' := (52, [(0, .ref 9), (1, .int (nI (i))), (2, .ref 20), (3, .int (nI (m))), (4, .int (nI (j) + 1)), (5, .int (nI (sa d i j)))], [])) (h' := (Gc L xs A B U V S d X)) (fun _ _ => rfl) ?_
      rw [show nI (j) + 1 = nI (j + 1) from nI_add (j) 1]
      refine eR.step 1 (F' := (9, [(0, .ref 9), (1, .int (nI (i))), (2, .ref 20), (3, .int (nI (m))), (4, .int (nI (j + 1))), (5, .int (nI (sa d i j)))], [])) (h' := (Gc L xs A B U V S d X)) (fun _ _ => rfl) ?_
      exact l_find_20 hlo hd hn hi hm q (j + 1) _ (by omega) (by omega)
    · refine eR.ifc rfl false ((nc_eq (b := 0) (by omega) (by decide)).trans (decide_eq_false (by omega))) ?_
      refine eR.step 3 (F' := (40, [(0, .ref 9), (1, .int (nI (i))), (2, .ref 20), (3, .int (nI (m))), (4, .int (nI (j))), (5, .int (nI (sa d i j)))], [.ref 20, .int (nI (sa d i j)), .ref 9])) (h' := (Gc L xs A B U V S d X)) (fun _ _ => rfl) ?_
      refine eR.call (k' := 71) (as := [.ref 9, .int (nI (sa d i j)), .ref 20]) (rest := []) (v := some (.int (nI (bi (nq d (sa d i j) (U.2.2.2) 0 7))))) (h1 := (Gc L xs A B U V S d X)) rfl rfl rfl rfl (eg (Nat.le_of_ble_eq_true rfl) (show 23 ≤ lo by omega) (Nat.le_of_ble_eq_true rfl)) (c_hasName_20 (show 21 ≤ lo - 23 by omega) hd hn (by omega)) ?_
      by_cases h1 : nq d (sa d i j) (U.2.2.2) 0 7 = true
      · rw [if_pos ⟨h0, h1⟩]
        refine eR.ifc rfl false ((nc_eq (b := 0) (by rw [bi_t h1]; decide) (by decide)).trans (decide_eq_false (by rw [bi_t h1]; decide))) ?_
        refine eR.step 1 (F' := (48, [(0, .ref 9), (1, .int (nI (i))), (2, .ref 20), (3, .int (nI (m))), (4, .int (nI (j))), (5, .int (nI (sa d i j)))], [.int (nI (j))])) (h' := (Gc L xs A B U V S d X)) (fun _ _ => rfl) ?_
        exact eR.ret rfl rfl rfl
      · rw [if_neg (fun z => h1 z.2)]
        refine eR.ifc rfl true ((nc_eq (b := 0) (by rw [bi_f h1]; decide) (by decide)).trans (decide_eq_true (by rw [bi_f h1]))) ?_
        refine eR.step 1 (F' := (52, [(0, .ref 9), (1, .int (nI (i))), (2, .ref 20), (3, .int (nI (m))), (4, .int (nI (j) + 1)), (5, .int (nI (sa d i j)))], [])) (h' := (Gc L xs A B U V S d X)) (fun _ _ => rfl) ?_
        rw [show nI (j) + 1 = nI (j + 1) from nI_add (j) 1]
        refine eR.step 1 (F' := (9, [(0, .ref 9), (1, .int (nI (i))), (2, .ref 20), (3, .int (nI (m))), (4, .int (nI (j + 1))), (5, .int (nI (sa d i j)))], [])) (h' := (Gc L xs A B U V S d X)) (fun _ _ => rfl) ?_
        exact l_find_20 hlo hd hn hi hm q (j + 1) _ (by omega) (by omega)
theorem c_find_20 {cm sm fr lo L : Nat} {xs : Nat → Int32} {A B : gT} {U V : gU} {S : gS} {d : Nat → Nat} {X : mj_H} (hlo : 64 ≤ lo) (hd : dk d) (hn : ∀ k, U.2.2.2 k < 128) {i : Nat} (hi : i < 2 ^ 20) : eE mm_P cm sm (fr + 4) lo 70 [.ref 9, .int (nI (i)), .ref 20] (Gc L xs A B U V S d X) (.inl (some (.int (nI (fd d i (U.2.2.2) 2 (sn d i - 2))))), Gc L xs A B U V S d X) := by
  refine eE.of ?_
  refine eR.step 2 (F' := (2, [(0, .ref 9), (1, .int (nI (i))), (2, .ref 20)], [.int (nI (i)), .ref 9])) (h' := (Gc L xs A B U V S d X)) (fun _ _ => rfl) ?_
  refine eR.call (k' := 50) (as := [.ref 9, .int (nI (i))]) (rest := []) (v := some (.int (nI (sn d i)))) (h1 := (Gc L xs A B U V S d X)) rfl rfl rfl rfl (eg (Nat.le_of_ble_eq_true rfl) (show 21 ≤ lo by omega) (Nat.le_of_ble_eq_true rfl)) (c_slots (show 43 ≤ lo - 21 by omega) hd hi) ?_
  refine eR.step 3 (F' := (9, [(0, .ref 9), (1, .int (nI (i))), (2, .ref 20), (3, .int (nI (sn d i))), (4, .int (nI 2))], [])) (h' := (Gc L xs A B U V S d X)) (fun _ _ => rfl) ?_
  exact l_find0_20 hlo hd hn hi (sn_le d i) _ 2 rfl (by decide)
theorem l_hasName_22 {cm sm fr lo L : Nat} {xs : Nat → Int32} {A B : gT} {U V : gU} {S : gS} {d : Nat → Nat} {X : mj_H} (hlo : 21 ≤ lo) (hd : dk d) (hn : ∀ k, V.2.2.2 k < 128) {a : Nat} (ha : a < 2 ^ 20) : ∀ q k : Nat, k + q = 7 → eR mm_P cm sm (fr + 1) lo 71 (2, [(0, .ref 9), (1, .int (nI (a))), (2, .ref 22), (3, .int (nI (k)))], []) (Gc L xs A B U V S d X) (.inl (some (.int (nI (bi (nq d a (V.2.2.2) k q))))), Gc L xs A B U V S d X)
  | 0, k, hk => by
    refine eR.step 3 (F' := (5, [(0, .ref 9), (1, .int (nI (a))), (2, .ref 22), (3, .int (nI (k)))], [.int (nI 7), .int (nI (k))])) (h' := (Gc L xs A B U V S d X)) (fun _ _ => rfl) ?_
    refine eR.icmp rfl true ((nc_ge (by omega) (by decide)).trans (decide_eq_true (by omega))) ?_
    refine eR.step 1 (F' := (35, [(0, .ref 9), (1, .int (nI (a))), (2, .ref 22), (3, .int (nI (k)))], [.int (nI 1)])) (h' := (Gc L xs A B U V S d X)) (fun _ _ => rfl) ?_
    exact eR.ret rfl rfl rfl
  | q + 1, k, hk => by
    have hb := hd.1 (a + 1 + k)
    have hn1 := hn k
    unfold nq
    refine eR.step 3 (F' := (5, [(0, .ref 9), (1, .int (nI (a))), (2, .ref 22), (3, .int (nI (k)))], [.int (nI 7), .int (nI (k))])) (h' := (Gc L xs A B U V S d X)) (fun _ _ => rfl) ?_
    refine eR.icmp rfl false ((nc_ge (by omega) (by decide)).trans (decide_eq_false (by omega))) ?_
    refine eR.step 4 (F' := (14, [(0, .ref 9), (1, .int (nI (a))), (2, .ref 22), (3, .int (nI (k)))], [.int (nI 1), .int (nI (a)), .ref 4])) (h' := (Gc L xs A B U V S d X)) (fun _ _ => rfl) ?_
    refine eR.nadd rfl ?_
    refine eR.step 1 (F' := (16, [(0, .ref 9), (1, .int (nI (a))), (2, .ref 22), (3, .int (nI (k)))], [.int (nI (k)), .int (nI (a + 1)), .ref 4])) (h' := (Gc L xs A B U V S d X)) (fun _ _ => rfl) ?_
    refine eR.nadd rfl ?_
    refine eR.call (k' := 20) (as := [.ref 4, .int (nI ((a + 1) + k))]) (rest := []) (v := some (.int (nI (d (a + 1 + k))))) (h1 := (Gc L xs A B U V S d X)) rfl rfl rfl rfl (eg (Nat.le_of_ble_eq_true rfl) (show 21 ≤ lo by omega) (Nat.le_of_ble_eq_true rfl)) (c_get hd (by omega)) ?_
    refine eR.step 2 (F' := (22, [(0, .ref 9), (1, .int (nI (a))), (2, .ref 22), (3, .int (nI (k)))], [.int (nI (k)), .ref 22, .int (nI (d (a + 1 + k)))])) (h' := (Gc L xs A B U V S d X)) (fun _ _ => rfl) ?_
    refine eR.sim rfl (F := (23, [(0, .ref 9), (1, .int (nI (a))), (2, .ref 22), (3, .int (nI (k)))], [.int (nI (V.2.2.2 k)), .int (nI (d (a + 1 + k)))])) (h' := (Gc L xs A B U V S d X)) (by simp [mj_sim, mj_ar, mj_gi, Gc, na_ix (show k < 7 by omega) (by decide), sb_small (hn k)]) ?_
    by_cases h0 : d (a + 1 + k) = V.2.2.2 k
    · rw [if_pos h0]
      refine eR.icmp rfl true ((nc_eq (by omega) (by omega)).trans (decide_eq_true (by omega))) ?_
      refine eR.step 1 (F' := (31, [(0, .ref 9), (1, .int (nI (a))), (2, .ref 22), (3, .int (nI (k) + 1))], [])) (h' := (Gc L xs A B U V S d X)) (fun _ _ => rfl) ?_
      rw [show nI (k) + 1 = nI (k + 1) from nI_add (k) 1]
      refine eR.step 1 (F' := (2, [(0, .ref 9), (1, .int (nI (a))), (2, .ref 22), (3, .int (nI (k + 1)))], [])) (h' := (Gc L xs A B U V S d X)) (fun _ _ => rfl) ?_
      exact l_hasName_22 hlo hd hn ha q (k + 1) (by omega)
    · rw [if_neg h0]
      refine eR.icmp rfl false ((nc_eq (by omega) (by omega)).trans (decide_eq_false (by omega))) ?_
      refine eR.step 1 (F' := (27, [(0, .ref 9), (1, .int (nI (a))), (2, .ref 22), (3, .int (nI (k)))], [.int (nI 0)])) (h' := (Gc L xs A B U V S d X)) (fun _ _ => rfl) ?_
      exact eR.ret rfl rfl rfl
theorem c_hasName_22 {cm sm fr lo L : Nat} {xs : Nat → Int32} {A B : gT} {U V : gU} {S : gS} {d : Nat → Nat} {X : mj_H} (hlo : 21 ≤ lo) (hd : dk d) (hn : ∀ k, V.2.2.2 k < 128) {a : Nat} (ha : a < 2 ^ 20) : eE mm_P cm sm (fr + 2) lo 71 [.ref 9, .int (nI (a)), .ref 22] (Gc L xs A B U V S d X) (.inl (some (.int (nI (bi (nq d a (V.2.2.2) 0 7))))), Gc L xs A B U V S d X) := by
  refine eE.of ?_
  refine eR.step 2 (F' := (2, [(0, .ref 9), (1, .int (nI (a))), (2, .ref 22), (3, .int (nI 0))], [])) (h' := (Gc L xs A B U V S d X)) (fun _ _ => rfl) ?_
  exact l_hasName_22 hlo hd hn ha 7 0 (by decide)
theorem l_find_22 {cm sm fr lo L : Nat} {xs : Nat → Int32} {A B : gT} {U V : gU} {S : gS} {d : Nat → Nat} {X : mj_H} (hlo : 64 ≤ lo) (hd : dk d) (hn : ∀ k, V.2.2.2 k < 128) {i : Nat} (hi : i < 2 ^ 20) {m : Nat} (hm : m ≤ 24) : ∀ (q j : Nat) (x : Int32), m - j = q → j < 2 ^ 19 → eR mm_P cm sm (fr + 3) lo 70 (9, [(0, .ref 9), (1, .int (nI (i))), (2, .ref 22), (3, .int (nI (m))), (4, .int (nI (j))), (5, .int (x))], []) (Gc L xs A B U V S d X) (.inl (some (.int (nI (fd d i (V.2.2.2) j q)))), Gc L xs A B U V S d X)
  | 0, j, x, hq, hj => by
    refine eR.step 2 (F' := (12, [(0, .ref 9), (1, .int (nI (i))), (2, .ref 22), (3, .int (nI (m))), (4, .int (nI (j))), (5, .int (x))], [.int (nI (m)), .int (nI (j))])) (h' := (Gc L xs A B U V S d X)) (fun _ _ => rfl) ?_
    refine eR.icmp rfl true ((nc_ge (by omega) (by omega)).trans (decide_eq_true (by omega))) ?_
    refine eR.step 1 (F' := (56, [(0, .ref 9), (1, .int (nI (i))), (2, .ref 22), (3, .int (nI (m))), (4, .int (nI (j))), (5, .int (x))], [.int (nI 0)])) (h' := (Gc L xs A B U V S d X)) (fun _ _ => rfl) ?_
    exact eR.ret rfl rfl rfl
  | q + 1, j, x, hq, hj => by
    have hb : si d i j < 256 := hd.1 _
    have hs := sa_lt hd i j
    unfold fd
    refine eR.step 2 (F' := (12, [(0, .ref 9), (1, .int (nI (i))), (2, .ref 22), (3, .int (nI (m))), (4, .int (nI (j))), (5, .int (x))], [.int (nI (m)), .int (nI (j))])) (h' := (Gc L xs A B U V S d X)) (fun _ _ => rfl) ?_
    refine eR.icmp rfl false ((nc_ge (by omega) (by omega)).trans (decide_eq_false (by omega))) ?_
    refine eR.step 3 (F' := (19, [(0, .ref 9), (1, .int (nI (i))), (2, .ref 22), (3, .int (nI (m))), (4, .int (nI (j))), (5, .int (x))], [.int (nI (j)), .int (nI (i)), .ref 9])) (h' := (Gc L xs A B U V S d X)) (fun _ _ => rfl) ?_
    refine eR.call (k' := 25) (as := [.ref 9, .int (nI (i)), .int (nI (j))]) (rest := []) (v := some (.int (nI (sa d i j)))) (h1 := (Gc L xs A B U V S d X)) rfl rfl rfl rfl (eg (Nat.le_of_ble_eq_true rfl) (show 23 ≤ lo by omega) (Nat.le_of_ble_eq_true rfl)) (c_slotAt (show 21 ≤ lo - 23 by omega) hd hi (by omega)) ?_
    refine eR.step 4 (F' := (30, [(0, .ref 9), (1, .int (nI (i))), (2, .ref 22), (3, .int (nI (m))), (4, .int (nI (j))), (5, .int (nI (sa d i j)))], [.int (nI (sa d i j)), .ref 4])) (h' := (Gc L xs A B U V S d X)) (fun _ _ => rfl) ?_
    refine eR.call (k' := 20) (as := [.ref 4, .int (nI (sa d i j))]) (rest := []) (v := some (.int (nI (si d i j)))) (h1 := (Gc L xs A B U V S d X)) rfl rfl rfl rfl (eg (Nat.le_of_ble_eq_true rfl) (show 21 ≤ lo by omega) (Nat.le_of_ble_eq_true rfl)) (c_get hd (by omega)) ?_
    by_cases h0 : si d i j = 0
    · rw [if_neg (fun z => z.1 h0)]
      refine eR.ifc rfl true ((nc_eq (b := 0) (by omega) (by decide)).trans (decide_eq_true (by omega))) ?_
      refine eR.step 1 (F' := (52, [(0, .ref 9), (1, .int (nI (i))), (2, .ref 22), (3, .int (nI (m))), (4, .int (nI (j) + 1)), (5, .int (nI (sa d i j)))], [])) (h' := (Gc L xs A B U V S d X)) (fun _ _ => rfl) ?_
      rw [show nI (j) + 1 = nI (j + 1) from nI_add (j) 1]
      refine eR.step 1 (F' := (9, [(0, .ref 9), (1, .int (nI (i))), (2, .ref 22), (3, .int (nI (m))), (4, .int (nI (j + 1))), (5, .int (nI (sa d i j)))], [])) (h' := (Gc L xs A B U V S d X)) (fun _ _ => rfl) ?_
      exact l_find_22 hlo hd hn hi hm q (j + 1) _ (by omega) (by omega)
    · refine eR.ifc rfl false ((nc_eq (b := 0) (by omega) (by decide)).trans (decide_eq_false (by omega))) ?_
      refine eR.step 3 (F' := (40, [(0, .ref 9), (1, .int (nI (i))), (2, .ref 22), (3, .int (nI (m))), (4, .int (nI (j))), (5, .int (nI (sa d i j)))], [.ref 22, .int (nI (sa d i j)), .ref 9])) (h' := (Gc L xs A B U V S d X)) (fun _ _ => rfl) ?_
      refine eR.call (k' := 71) (as := [.ref 9, .int (nI (sa d i j)), .ref 22]) (rest := []) (v := some (.int (nI (bi (nq d (sa d i j) (V.2.2.2) 0 7))))) (h1 := (Gc L xs A B U V S d X)) rfl rfl rfl rfl (eg (Nat.le_of_ble_eq_true rfl) (show 23 ≤ lo by omega) (Nat.le_of_ble_eq_true rfl)) (c_hasName_22 (show 21 ≤ lo - 23 by omega) hd hn (by omega)) ?_
      by_cases h1 : nq d (sa d i j) (V.2.2.2) 0 7 = true
      · rw [if_pos ⟨h0, h1⟩]
        refine eR.ifc rfl false ((nc_eq (b := 0) (by rw [bi_t h1]; decide) (by decide)).trans (decide_eq_false (by rw [bi_t h1]; decide))) ?_
        refine eR.step 1 (F' := (48, [(0, .ref 9), (1, .int (nI (i))), (2, .ref 22), (3, .int (nI (m))), (4, .int (nI (j))), (5, .int (nI (sa d i j)))], [.int (nI (j))])) (h' := (Gc L xs A B U V S d X)) (fun _ _ => rfl) ?_
        exact eR.ret rfl rfl rfl
      · rw [if_neg (fun z => h1 z.2)]
        refine eR.ifc rfl true ((nc_eq (b := 0) (by rw [bi_f h1]; decide) (by decide)).trans (decide_eq_true (by rw [bi_f h1]))) ?_
        refine eR.step 1 (F' := (52, [(0, .ref 9), (1, .int (nI (i))), (2, .ref 22), (3, .int (nI (m))), (4, .int (nI (j) + 1)), (5, .int (nI (sa d i j)))], [])) (h' := (Gc L xs A B U V S d X)) (fun _ _ => rfl) ?_
        rw [show nI (j) + 1 = nI (j + 1) from nI_add (j) 1]
        refine eR.step 1 (F' := (9, [(0, .ref 9), (1, .int (nI (i))), (2, .ref 22), (3, .int (nI (m))), (4, .int (nI (j + 1))), (5, .int (nI (sa d i j)))], [])) (h' := (Gc L xs A B U V S d X)) (fun _ _ => rfl) ?_
        exact l_find_22 hlo hd hn hi hm q (j + 1) _ (by omega) (by omega)
theorem l_find0_22 {cm sm fr lo L : Nat} {xs : Nat → Int32} {A B : gT} {U V : gU} {S : gS} {d : Nat → Nat} {X : mj_H} (hlo : 64 ≤ lo) (hd : dk d) (hn : ∀ k, V.2.2.2 k < 128) {i : Nat} (hi : i < 2 ^ 20) {m : Nat} (hm : m ≤ 24) : ∀ (q j : Nat), m - j = q → j < 2 ^ 19 → eR mm_P cm sm (fr + 3) lo 70 (9, [(0, .ref 9), (1, .int (nI (i))), (2, .ref 22), (3, .int (nI (m))), (4, .int (nI (j)))], []) (Gc L xs A B U V S d X) (.inl (some (.int (nI (fd d i (V.2.2.2) j q)))), Gc L xs A B U V S d X)
  | 0, j, hq, hj => by
    refine eR.step 2 (F' := (12, [(0, .ref 9), (1, .int (nI (i))), (2, .ref 22), (3, .int (nI (m))), (4, .int (nI (j)))], [.int (nI (m)), .int (nI (j))])) (h' := (Gc L xs A B U V S d X)) (fun _ _ => rfl) ?_
    refine eR.icmp rfl true ((nc_ge (by omega) (by omega)).trans (decide_eq_true (by omega))) ?_
    refine eR.step 1 (F' := (56, [(0, .ref 9), (1, .int (nI (i))), (2, .ref 22), (3, .int (nI (m))), (4, .int (nI (j)))], [.int (nI 0)])) (h' := (Gc L xs A B U V S d X)) (fun _ _ => rfl) ?_
    exact eR.ret rfl rfl rfl
  | q + 1, j, hq, hj => by
    have hb : si d i j < 256 := hd.1 _
    have hs := sa_lt hd i j
    unfold fd
    refine eR.step 2 (F' := (12, [(0, .ref 9), (1, .int (nI (i))), (2, .ref 22), (3, .int (nI (m))), (4, .int (nI (j)))], [.int (nI (m)), .int (nI (j))])) (h' := (Gc L xs A B U V S d X)) (fun _ _ => rfl) ?_
    refine eR.icmp rfl false ((nc_ge (by omega) (by omega)).trans (decide_eq_false (by omega))) ?_
    refine eR.step 3 (F' := (19, [(0, .ref 9), (1, .int (nI (i))), (2, .ref 22), (3, .int (nI (m))), (4, .int (nI (j)))], [.int (nI (j)), .int (nI (i)), .ref 9])) (h' := (Gc L xs A B U V S d X)) (fun _ _ => rfl) ?_
    refine eR.call (k' := 25) (as := [.ref 9, .int (nI (i)), .int (nI (j))]) (rest := []) (v := some (.int (nI (sa d i j)))) (h1 := (Gc L xs A B U V S d X)) rfl rfl rfl rfl (eg (Nat.le_of_ble_eq_true rfl) (show 23 ≤ lo by omega) (Nat.le_of_ble_eq_true rfl)) (c_slotAt (show 21 ≤ lo - 23 by omega) hd hi (by omega)) ?_
    refine eR.step 4 (F' := (30, [(0, .ref 9), (1, .int (nI (i))), (2, .ref 22), (3, .int (nI (m))), (4, .int (nI (j))), (5, .int (nI (sa d i j)))], [.int (nI (sa d i j)), .ref 4])) (h' := (Gc L xs A B U V S d X)) (fun _ _ => rfl) ?_
    refine eR.call (k' := 20) (as := [.ref 4, .int (nI (sa d i j))]) (rest := []) (v := some (.int (nI (si d i j)))) (h1 := (Gc L xs A B U V S d X)) rfl rfl rfl rfl (eg (Nat.le_of_ble_eq_true rfl) (show 21 ≤ lo by omega) (Nat.le_of_ble_eq_true rfl)) (c_get hd (by omega)) ?_
    by_cases h0 : si d i j = 0
    · rw [if_neg (fun z => z.1 h0)]
      refine eR.ifc rfl true ((nc_eq (b := 0) (by omega) (by decide)).trans (decide_eq_true (by omega))) ?_
      refine eR.step 1 (F' := (52, [(0, .ref 9), (1, .int (nI (i))), (2, .ref 22), (3, .int (nI (m))), (4, .int (nI (j) + 1)), (5, .int (nI (sa d i j)))], [])) (h' := (Gc L xs A B U V S d X)) (fun _ _ => rfl) ?_
      rw [show nI (j) + 1 = nI (j + 1) from nI_add (j) 1]
      refine eR.step 1 (F' := (9, [(0, .ref 9), (1, .int (nI (i))), (2, .ref 22), (3, .int (nI (m))), (4, .int (nI (j + 1))), (5, .int (nI (sa d i j)))], [])) (h' := (Gc L xs A B U V S d X)) (fun _ _ => rfl) ?_
      exact l_find_22 hlo hd hn hi hm q (j + 1) _ (by omega) (by omega)
    · refine eR.ifc rfl false ((nc_eq (b := 0) (by omega) (by decide)).trans (decide_eq_false (by omega))) ?_
      refine eR.step 3 (F' := (40, [(0, .ref 9), (1, .int (nI (i))), (2, .ref 22), (3, .int (nI (m))), (4, .int (nI (j))), (5, .int (nI (sa d i j)))], [.ref 22, .int (nI (sa d i j)), .ref 9])) (h' := (Gc L xs A B U V S d X)) (fun _ _ => rfl) ?_
      refine eR.call (k' := 71) (as := [.ref 9, .int (nI (sa d i j)), .ref 22]) (rest := []) (v := some (.int (nI (bi (nq d (sa d i j) (V.2.2.2) 0 7))))) (h1 := (Gc L xs A B U V S d X)) rfl rfl rfl rfl (eg (Nat.le_of_ble_eq_true rfl) (show 23 ≤ lo by omega) (Nat.le_of_ble_eq_true rfl)) (c_hasName_22 (show 21 ≤ lo - 23 by omega) hd hn (by omega)) ?_
      by_cases h1 : nq d (sa d i j) (V.2.2.2) 0 7 = true
      · rw [if_pos ⟨h0, h1⟩]
        refine eR.ifc rfl false ((nc_eq (b := 0) (by rw [bi_t h1]; decide) (by decide)).trans (decide_eq_false (by rw [bi_t h1]; decide))) ?_
        refine eR.step 1 (F' := (48, [(0, .ref 9), (1, .int (nI (i))), (2, .ref 22), (3, .int (nI (m))), (4, .int (nI (j))), (5, .int (nI (sa d i j)))], [.int (nI (j))])) (h' := (Gc L xs A B U V S d X)) (fun _ _ => rfl) ?_
        exact eR.ret rfl rfl rfl
      · rw [if_neg (fun z => h1 z.2)]
        refine eR.ifc rfl true ((nc_eq (b := 0) (by rw [bi_f h1]; decide) (by decide)).trans (decide_eq_true (by rw [bi_f h1]))) ?_
        refine eR.step 1 (F' := (52, [(0, .ref 9), (1, .int (nI (i))), (2, .ref 22), (3, .int (nI (m))), (4, .int (nI (j) + 1)), (5, .int (nI (sa d i j)))], [])) (h' := (Gc L xs A B U V S d X)) (fun _ _ => rfl) ?_
        rw [show nI (j) + 1 = nI (j + 1) from nI_add (j) 1]
        refine eR.step 1 (F' := (9, [(0, .ref 9), (1, .int (nI (i))), (2, .ref 22), (3, .int (nI (m))), (4, .int (nI (j + 1))), (5, .int (nI (sa d i j)))], [])) (h' := (Gc L xs A B U V S d X)) (fun _ _ => rfl) ?_
        exact l_find_22 hlo hd hn hi hm q (j + 1) _ (by omega) (by omega)
theorem c_find_22 {cm sm fr lo L : Nat} {xs : Nat → Int32} {A B : gT} {U V : gU} {S : gS} {d : Nat → Nat} {X : mj_H} (hlo : 64 ≤ lo) (hd : dk d) (hn : ∀ k, V.2.2.2 k < 128) {i : Nat} (hi : i < 2 ^ 20) : eE mm_P cm sm (fr + 4) lo 70 [.ref 9, .int (nI (i)), .ref 22] (Gc L xs A B U V S d X) (.inl (some (.int (nI (fd d i (V.2.2.2) 2 (sn d i - 2))))), Gc L xs A B U V S d X) := by
  refine eE.of ?_
  refine eR.step 2 (F' := (2, [(0, .ref 9), (1, .int (nI (i))), (2, .ref 22)], [.int (nI (i)), .ref 9])) (h' := (Gc L xs A B U V S d X)) (fun _ _ => rfl) ?_
  refine eR.call (k' := 50) (as := [.ref 9, .int (nI (i))]) (rest := []) (v := some (.int (nI (sn d i)))) (h1 := (Gc L xs A B U V S d X)) rfl rfl rfl rfl (eg (Nat.le_of_ble_eq_true rfl) (show 21 ≤ lo by omega) (Nat.le_of_ble_eq_true rfl)) (c_slots (show 43 ≤ lo - 21 by omega) hd hi) ?_
  refine eR.step 3 (F' := (9, [(0, .ref 9), (1, .int (nI (i))), (2, .ref 22), (3, .int (nI (sn d i))), (4, .int (nI 2))], [])) (h' := (Gc L xs A B U V S d X)) (fun _ _ => rfl) ?_
  exact l_find0_22 hlo hd hn hi (sn_le d i) _ 2 rfl (by decide)
theorem l_fillN_0 {cm sm fr lo L : Nat} {xs : Nat → Int32} {A B : gT} {U V : gU} {S : gS} {X : mj_H} (hlo : 66 ≤ lo) {i j v a : Nat} (hv : v < 2 ^ 20) (ha : a < 2 ^ 20) : ∀ (q : Nat) (d : Nat → Nat) (k : Nat), dk d → k + q = 7 → eR mm_P cm sm (fr + 3) lo 24 (21, [(0, .ref 9), (1, .int (nI (i))), (2, .int (nI (j))), (3, .int (nI (v))), (4, .ref 0), (5, .int (nI (a))), (6, .int (nI (k)))], []) (Gc L xs A B U V S d X) (.inl none, Gc L xs A B U V S (al (wn a (n0) d k q) v 1) X)
  | 0, d, k, hd, hk => by
    refine eR.step 3 (F' := (26, [(0, .ref 9), (1, .int (nI (i))), (2, .int (nI (j))), (3, .int (nI (v))), (4, .ref 0), (5, .int (nI (a))), (6, .int (nI (k)))], [.int (nI 7), .int (nI (k))])) (h' := (Gc L xs A B U V S d X)) (fun _ _ => rfl) ?_
    refine eR.icmp rfl true ((nc_ge (by omega) (by decide)).trans (decide_eq_true (by omega))) ?_
    refine eR.step 4 (F' := (60, [(0, .ref 9), (1, .int (nI (i))), (2, .int (nI (j))), (3, .int (nI (v))), (4, .ref 0), (5, .int (nI (a))), (6, .int (nI (k)))], [.int (nI 1), .int (nI (v)), .ref 8])) (h' := (Gc L xs A B U V S d X)) (fun _ _ => rfl) ?_
    refine eR.call (k' := 26) (as := [.ref 8, .int (nI (v)), .int (nI 1)]) (rest := []) (v := none) (h1 := (Gc L xs A B U V S (al d v 1) X)) rfl rfl rfl rfl (eg (Nat.le_of_ble_eq_true rfl) (show 22 ≤ lo by omega) (Nat.le_of_ble_eq_true rfl)) (c_addLinks (show 44 ≤ lo - 22 by omega) hd hv) ?_
    exact eR.ret rfl rfl rfl
  | q + 1, d, k, hd, hk => by
    refine eR.step 3 (F' := (26, [(0, .ref 9), (1, .int (nI (i))), (2, .int (nI (j))), (3, .int (nI (v))), (4, .ref 0), (5, .int (nI (a))), (6, .int (nI (k)))], [.int (nI 7), .int (nI (k))])) (h' := (Gc L xs A B U V S d X)) (fun _ _ => rfl) ?_
    refine eR.icmp rfl false ((nc_ge (by omega) (by decide)).trans (decide_eq_false (by omega))) ?_
    refine eR.step 4 (F' := (36, [(0, .ref 9), (1, .int (nI (i))), (2, .int (nI (j))), (3, .int (nI (v))), (4, .ref 0), (5, .int (nI (a))), (6, .int (nI (k)))], [.int (nI 1), .int (nI (a)), .ref 4])) (h' := (Gc L xs A B U V S d X)) (fun _ _ => rfl) ?_
    refine eR.nadd rfl ?_
    refine eR.step 1 (F' := (39, [(0, .ref 9), (1, .int (nI (i))), (2, .int (nI (j))), (3, .int (nI (v))), (4, .ref 0), (5, .int (nI (a))), (6, .int (nI (k)))], [.int (nI (k)), .int (nI (a + 1)), .ref 4])) (h' := (Gc L xs A B U V S d X)) (fun _ _ => rfl) ?_
    refine eR.nadd rfl ?_
    refine eR.step 2 (F' := (44, [(0, .ref 9), (1, .int (nI (i))), (2, .int (nI (j))), (3, .int (nI (v))), (4, .ref 0), (5, .int (nI (a))), (6, .int (nI (k)))], [.int (nI (k)), .ref 0, .int (nI ((a + 1) + k)), .ref 4])) (h' := (Gc L xs A B U V S d X)) (fun _ _ => rfl) ?_
    refine eR.sim rfl (F := (45, [(0, .ref 9), (1, .int (nI (i))), (2, .int (nI (j))), (3, .int (nI (v))), (4, .ref 0), (5, .int (nI (a))), (6, .int (nI (k)))], [.int (nI (n0 k)), .int (nI ((a + 1) + k)), .ref 4])) (h' := (Gc L xs A B U V S d X)) (by simp [mj_sim, mj_ar, mj_gi, Gc, na_ix (show k < 7 by omega) (by decide), n0_eq k]) ?_
    refine eR.call (k' := 10) (as := [.ref 4, .int (nI ((a + 1) + k)), .int (nI (n0 k))]) (rest := []) (v := none) (h1 := (Gc L xs A B U V S (dp d (a + 1 + k) (n0 k)) X)) rfl rfl rfl rfl (eg (Nat.le_of_ble_eq_true rfl) (show 22 ≤ lo by omega) (Nat.le_of_ble_eq_true rfl)) (c_put (by omega)) ?_
    refine eR.step 1 (F' := (51, [(0, .ref 9), (1, .int (nI (i))), (2, .int (nI (j))), (3, .int (nI (v))), (4, .ref 0), (5, .int (nI (a))), (6, .int (nI (k) + 1))], [])) (h' := (Gc L xs A B U V S (dp d (a + 1 + k) (n0 k)) X)) (fun _ _ => rfl) ?_
    rw [show nI (k) + 1 = nI (k + 1) from nI_add (k) 1]
    refine eR.step 1 (F' := (21, [(0, .ref 9), (1, .int (nI (i))), (2, .int (nI (j))), (3, .int (nI (v))), (4, .ref 0), (5, .int (nI (a))), (6, .int (nI (k + 1)))], [])) (h' := (Gc L xs A B U V S (dp d (a + 1 + k) (n0 k)) X)) (fun _ _ => rfl) ?_
    exact l_fillN_0 hlo  hv ha q (dp d (a + 1 + k) (n0 k)) (k + 1) (dp_dk hd _ _) (by omega)
theorem c_fillS_0 {cm sm fr lo L : Nat} {xs : Nat → Int32} {A B : gT} {U V : gU} {S : gS} {d : Nat → Nat} {X : mj_H} (hlo : 66 ≤ lo) (hd : dk d) {i : Nat} (hi : i < 2 ^ 20) {j v : Nat} (hj : j < 2 ^ 20) (hv : v < 2 ^ 20) : eE mm_P cm sm (fr + 4) lo 24 [.ref 9, .int (nI (i)), .int (nI (j)), .int (nI (v)), .ref 0] (Gc L xs A B U V S d X) (.inl (none), Gc L xs A B U V S (fl d i j v (n0)) X) := by
  have hs := sa_lt hd i j
  refine eE.of ?_
  refine eR.step 3 (F' := (3, [(0, .ref 9), (1, .int (nI (i))), (2, .int (nI (j))), (3, .int (nI (v))), (4, .ref 0)], [.int (nI (j)), .int (nI (i)), .ref 9])) (h' := (Gc L xs A B U V S d X)) (fun _ _ => rfl) ?_
  refine eR.call (k' := 25) (as := [.ref 9, .int (nI (i)), .int (nI (j))]) (rest := []) (v := some (.int (nI (sa d i j)))) (h1 := (Gc L xs A B U V S d X)) rfl rfl rfl rfl (eg (Nat.le_of_ble_eq_true rfl) (show 23 ≤ lo by omega) (Nat.le_of_ble_eq_true rfl)) (c_slotAt (show 21 ≤ lo - 23 by omega) hd hi hj) ?_
  refine eR.step 5 (F' := (15, [(0, .ref 9), (1, .int (nI (i))), (2, .int (nI (j))), (3, .int (nI (v))), (4, .ref 0), (5, .int (nI (sa d i j)))], [.int (nI (v)), .int (nI (sa d i j)), .ref 4])) (h' := (Gc L xs A B U V S d X)) (fun _ _ => rfl) ?_
  refine eR.call (k' := 10) (as := [.ref 4, .int (nI (sa d i j)), .int (nI (v))]) (rest := []) (v := none) (h1 := (Gc L xs A B U V S (dp d (sa d i j) v) X)) rfl rfl rfl rfl (eg (Nat.le_of_ble_eq_true rfl) (show 22 ≤ lo by omega) (Nat.le_of_ble_eq_true rfl)) (c_put (by omega)) ?_
  refine eR.step 2 (F' := (21, [(0, .ref 9), (1, .int (nI (i))), (2, .int (nI (j))), (3, .int (nI (v))), (4, .ref 0), (5, .int (nI (sa d i j))), (6, .int (nI 0))], [])) (h' := (Gc L xs A B U V S (dp d (sa d i j) v) X)) (fun _ _ => rfl) ?_
  exact l_fillN_0 hlo  hv (by omega) 7 (dp d (sa d i j) v) 0 (dp_dk hd _ _) (by decide)
theorem l_fillN_1 {cm sm fr lo L : Nat} {xs : Nat → Int32} {A B : gT} {U V : gU} {S : gS} {X : mj_H} (hlo : 66 ≤ lo) {i j v a : Nat} (hv : v < 2 ^ 20) (ha : a < 2 ^ 20) : ∀ (q : Nat) (d : Nat → Nat) (k : Nat), dk d → k + q = 7 → eR mm_P cm sm (fr + 3) lo 24 (21, [(0, .ref 9), (1, .int (nI (i))), (2, .int (nI (j))), (3, .int (nI (v))), (4, .ref 1), (5, .int (nI (a))), (6, .int (nI (k)))], []) (Gc L xs A B U V S d X) (.inl none, Gc L xs A B U V S (al (wn a (n1) d k q) v 1) X)
  | 0, d, k, hd, hk => by
    refine eR.step 3 (F' := (26, [(0, .ref 9), (1, .int (nI (i))), (2, .int (nI (j))), (3, .int (nI (v))), (4, .ref 1), (5, .int (nI (a))), (6, .int (nI (k)))], [.int (nI 7), .int (nI (k))])) (h' := (Gc L xs A B U V S d X)) (fun _ _ => rfl) ?_
    refine eR.icmp rfl true ((nc_ge (by omega) (by decide)).trans (decide_eq_true (by omega))) ?_
    refine eR.step 4 (F' := (60, [(0, .ref 9), (1, .int (nI (i))), (2, .int (nI (j))), (3, .int (nI (v))), (4, .ref 1), (5, .int (nI (a))), (6, .int (nI (k)))], [.int (nI 1), .int (nI (v)), .ref 8])) (h' := (Gc L xs A B U V S d X)) (fun _ _ => rfl) ?_
    refine eR.call (k' := 26) (as := [.ref 8, .int (nI (v)), .int (nI 1)]) (rest := []) (v := none) (h1 := (Gc L xs A B U V S (al d v 1) X)) rfl rfl rfl rfl (eg (Nat.le_of_ble_eq_true rfl) (show 22 ≤ lo by omega) (Nat.le_of_ble_eq_true rfl)) (c_addLinks (show 44 ≤ lo - 22 by omega) hd hv) ?_
    exact eR.ret rfl rfl rfl
  | q + 1, d, k, hd, hk => by
    refine eR.step 3 (F' := (26, [(0, .ref 9), (1, .int (nI (i))), (2, .int (nI (j))), (3, .int (nI (v))), (4, .ref 1), (5, .int (nI (a))), (6, .int (nI (k)))], [.int (nI 7), .int (nI (k))])) (h' := (Gc L xs A B U V S d X)) (fun _ _ => rfl) ?_
    refine eR.icmp rfl false ((nc_ge (by omega) (by decide)).trans (decide_eq_false (by omega))) ?_
    refine eR.step 4 (F' := (36, [(0, .ref 9), (1, .int (nI (i))), (2, .int (nI (j))), (3, .int (nI (v))), (4, .ref 1), (5, .int (nI (a))), (6, .int (nI (k)))], [.int (nI 1), .int (nI (a)), .ref 4])) (h' := (Gc L xs A B U V S d X)) (fun _ _ => rfl) ?_
    refine eR.nadd rfl ?_
    refine eR.step 1 (F' := (39, [(0, .ref 9), (1, .int (nI (i))), (2, .int (nI (j))), (3, .int (nI (v))), (4, .ref 1), (5, .int (nI (a))), (6, .int (nI (k)))], [.int (nI (k)), .int (nI (a + 1)), .ref 4])) (h' := (Gc L xs A B U V S d X)) (fun _ _ => rfl) ?_
    refine eR.nadd rfl ?_
    refine eR.step 2 (F' := (44, [(0, .ref 9), (1, .int (nI (i))), (2, .int (nI (j))), (3, .int (nI (v))), (4, .ref 1), (5, .int (nI (a))), (6, .int (nI (k)))], [.int (nI (k)), .ref 1, .int (nI ((a + 1) + k)), .ref 4])) (h' := (Gc L xs A B U V S d X)) (fun _ _ => rfl) ?_
    refine eR.sim rfl (F := (45, [(0, .ref 9), (1, .int (nI (i))), (2, .int (nI (j))), (3, .int (nI (v))), (4, .ref 1), (5, .int (nI (a))), (6, .int (nI (k)))], [.int (nI (n1 k)), .int (nI ((a + 1) + k)), .ref 4])) (h' := (Gc L xs A B U V S d X)) (by simp [mj_sim, mj_ar, mj_gi, Gc, na_ix (show k < 7 by omega) (by decide), n1_eq k]) ?_
    refine eR.call (k' := 10) (as := [.ref 4, .int (nI ((a + 1) + k)), .int (nI (n1 k))]) (rest := []) (v := none) (h1 := (Gc L xs A B U V S (dp d (a + 1 + k) (n1 k)) X)) rfl rfl rfl rfl (eg (Nat.le_of_ble_eq_true rfl) (show 22 ≤ lo by omega) (Nat.le_of_ble_eq_true rfl)) (c_put (by omega)) ?_
    refine eR.step 1 (F' := (51, [(0, .ref 9), (1, .int (nI (i))), (2, .int (nI (j))), (3, .int (nI (v))), (4, .ref 1), (5, .int (nI (a))), (6, .int (nI (k) + 1))], [])) (h' := (Gc L xs A B U V S (dp d (a + 1 + k) (n1 k)) X)) (fun _ _ => rfl) ?_
    rw [show nI (k) + 1 = nI (k + 1) from nI_add (k) 1]
    refine eR.step 1 (F' := (21, [(0, .ref 9), (1, .int (nI (i))), (2, .int (nI (j))), (3, .int (nI (v))), (4, .ref 1), (5, .int (nI (a))), (6, .int (nI (k + 1)))], [])) (h' := (Gc L xs A B U V S (dp d (a + 1 + k) (n1 k)) X)) (fun _ _ => rfl) ?_
    exact l_fillN_1 hlo  hv ha q (dp d (a + 1 + k) (n1 k)) (k + 1) (dp_dk hd _ _) (by omega)
theorem c_fillS_1 {cm sm fr lo L : Nat} {xs : Nat → Int32} {A B : gT} {U V : gU} {S : gS} {d : Nat → Nat} {X : mj_H} (hlo : 66 ≤ lo) (hd : dk d) {i : Nat} (hi : i < 2 ^ 20) {j v : Nat} (hj : j < 2 ^ 20) (hv : v < 2 ^ 20) : eE mm_P cm sm (fr + 4) lo 24 [.ref 9, .int (nI (i)), .int (nI (j)), .int (nI (v)), .ref 1] (Gc L xs A B U V S d X) (.inl (none), Gc L xs A B U V S (fl d i j v (n1)) X) := by
  have hs := sa_lt hd i j
  refine eE.of ?_
  refine eR.step 3 (F' := (3, [(0, .ref 9), (1, .int (nI (i))), (2, .int (nI (j))), (3, .int (nI (v))), (4, .ref 1)], [.int (nI (j)), .int (nI (i)), .ref 9])) (h' := (Gc L xs A B U V S d X)) (fun _ _ => rfl) ?_
  refine eR.call (k' := 25) (as := [.ref 9, .int (nI (i)), .int (nI (j))]) (rest := []) (v := some (.int (nI (sa d i j)))) (h1 := (Gc L xs A B U V S d X)) rfl rfl rfl rfl (eg (Nat.le_of_ble_eq_true rfl) (show 23 ≤ lo by omega) (Nat.le_of_ble_eq_true rfl)) (c_slotAt (show 21 ≤ lo - 23 by omega) hd hi hj) ?_
  refine eR.step 5 (F' := (15, [(0, .ref 9), (1, .int (nI (i))), (2, .int (nI (j))), (3, .int (nI (v))), (4, .ref 1), (5, .int (nI (sa d i j)))], [.int (nI (v)), .int (nI (sa d i j)), .ref 4])) (h' := (Gc L xs A B U V S d X)) (fun _ _ => rfl) ?_
  refine eR.call (k' := 10) (as := [.ref 4, .int (nI (sa d i j)), .int (nI (v))]) (rest := []) (v := none) (h1 := (Gc L xs A B U V S (dp d (sa d i j) v) X)) rfl rfl rfl rfl (eg (Nat.le_of_ble_eq_true rfl) (show 22 ≤ lo by omega) (Nat.le_of_ble_eq_true rfl)) (c_put (by omega)) ?_
  refine eR.step 2 (F' := (21, [(0, .ref 9), (1, .int (nI (i))), (2, .int (nI (j))), (3, .int (nI (v))), (4, .ref 1), (5, .int (nI (sa d i j))), (6, .int (nI 0))], [])) (h' := (Gc L xs A B U V S (dp d (sa d i j) v) X)) (fun _ _ => rfl) ?_
  exact l_fillN_1 hlo  hv (by omega) 7 (dp d (sa d i j) v) 0 (dp_dk hd _ _) (by decide)
theorem l_fillN_20 {cm sm fr lo L : Nat} {xs : Nat → Int32} {A B : gT} {U V : gU} {S : gS} {X : mj_H} (hlo : 66 ≤ lo) (hn : ∀ k, U.2.2.2 k < 128) {i j v a : Nat} (hv : v < 2 ^ 20) (ha : a < 2 ^ 20) : ∀ (q : Nat) (d : Nat → Nat) (k : Nat), dk d → k + q = 7 → eR mm_P cm sm (fr + 3) lo 24 (21, [(0, .ref 9), (1, .int (nI (i))), (2, .int (nI (j))), (3, .int (nI (v))), (4, .ref 20), (5, .int (nI (a))), (6, .int (nI (k)))], []) (Gc L xs A B U V S d X) (.inl none, Gc L xs A B U V S (al (wn a (U.2.2.2) d k q) v 1) X)
  | 0, d, k, hd, hk => by
    refine eR.step 3 (F' := (26, [(0, .ref 9), (1, .int (nI (i))), (2, .int (nI (j))), (3, .int (nI (v))), (4, .ref 20), (5, .int (nI (a))), (6, .int (nI (k)))], [.int (nI 7), .int (nI (k))])) (h' := (Gc L xs A B U V S d X)) (fun _ _ => rfl) ?_
    refine eR.icmp rfl true ((nc_ge (by omega) (by decide)).trans (decide_eq_true (by omega))) ?_
    refine eR.step 4 (F' := (60, [(0, .ref 9), (1, .int (nI (i))), (2, .int (nI (j))), (3, .int (nI (v))), (4, .ref 20), (5, .int (nI (a))), (6, .int (nI (k)))], [.int (nI 1), .int (nI (v)), .ref 8])) (h' := (Gc L xs A B U V S d X)) (fun _ _ => rfl) ?_
    refine eR.call (k' := 26) (as := [.ref 8, .int (nI (v)), .int (nI 1)]) (rest := []) (v := none) (h1 := (Gc L xs A B U V S (al d v 1) X)) rfl rfl rfl rfl (eg (Nat.le_of_ble_eq_true rfl) (show 22 ≤ lo by omega) (Nat.le_of_ble_eq_true rfl)) (c_addLinks (show 44 ≤ lo - 22 by omega) hd hv) ?_
    exact eR.ret rfl rfl rfl
  | q + 1, d, k, hd, hk => by
    refine eR.step 3 (F' := (26, [(0, .ref 9), (1, .int (nI (i))), (2, .int (nI (j))), (3, .int (nI (v))), (4, .ref 20), (5, .int (nI (a))), (6, .int (nI (k)))], [.int (nI 7), .int (nI (k))])) (h' := (Gc L xs A B U V S d X)) (fun _ _ => rfl) ?_
    refine eR.icmp rfl false ((nc_ge (by omega) (by decide)).trans (decide_eq_false (by omega))) ?_
    refine eR.step 4 (F' := (36, [(0, .ref 9), (1, .int (nI (i))), (2, .int (nI (j))), (3, .int (nI (v))), (4, .ref 20), (5, .int (nI (a))), (6, .int (nI (k)))], [.int (nI 1), .int (nI (a)), .ref 4])) (h' := (Gc L xs A B U V S d X)) (fun _ _ => rfl) ?_
    refine eR.nadd rfl ?_
    refine eR.step 1 (F' := (39, [(0, .ref 9), (1, .int (nI (i))), (2, .int (nI (j))), (3, .int (nI (v))), (4, .ref 20), (5, .int (nI (a))), (6, .int (nI (k)))], [.int (nI (k)), .int (nI (a + 1)), .ref 4])) (h' := (Gc L xs A B U V S d X)) (fun _ _ => rfl) ?_
    refine eR.nadd rfl ?_
    refine eR.step 2 (F' := (44, [(0, .ref 9), (1, .int (nI (i))), (2, .int (nI (j))), (3, .int (nI (v))), (4, .ref 20), (5, .int (nI (a))), (6, .int (nI (k)))], [.int (nI (k)), .ref 20, .int (nI ((a + 1) + k)), .ref 4])) (h' := (Gc L xs A B U V S d X)) (fun _ _ => rfl) ?_
    refine eR.sim rfl (F := (45, [(0, .ref 9), (1, .int (nI (i))), (2, .int (nI (j))), (3, .int (nI (v))), (4, .ref 20), (5, .int (nI (a))), (6, .int (nI (k)))], [.int (nI (U.2.2.2 k)), .int (nI ((a + 1) + k)), .ref 4])) (h' := (Gc L xs A B U V S d X)) (by simp [mj_sim, mj_ar, mj_gi, Gc, na_ix (show k < 7 by omega) (by decide), sb_small (hn k)]) ?_
    refine eR.call (k' := 10) (as := [.ref 4, .int (nI ((a + 1) + k)), .int (nI (U.2.2.2 k))]) (rest := []) (v := none) (h1 := (Gc L xs A B U V S (dp d (a + 1 + k) (U.2.2.2 k)) X)) rfl rfl rfl rfl (eg (Nat.le_of_ble_eq_true rfl) (show 22 ≤ lo by omega) (Nat.le_of_ble_eq_true rfl)) (c_put (by omega)) ?_
    refine eR.step 1 (F' := (51, [(0, .ref 9), (1, .int (nI (i))), (2, .int (nI (j))), (3, .int (nI (v))), (4, .ref 20), (5, .int (nI (a))), (6, .int (nI (k) + 1))], [])) (h' := (Gc L xs A B U V S (dp d (a + 1 + k) (U.2.2.2 k)) X)) (fun _ _ => rfl) ?_
    rw [show nI (k) + 1 = nI (k + 1) from nI_add (k) 1]
    refine eR.step 1 (F' := (21, [(0, .ref 9), (1, .int (nI (i))), (2, .int (nI (j))), (3, .int (nI (v))), (4, .ref 20), (5, .int (nI (a))), (6, .int (nI (k + 1)))], [])) (h' := (Gc L xs A B U V S (dp d (a + 1 + k) (U.2.2.2 k)) X)) (fun _ _ => rfl) ?_
    exact l_fillN_20 hlo hn hv ha q (dp d (a + 1 + k) (U.2.2.2 k)) (k + 1) (dp_dk hd _ _) (by omega)
theorem c_fillS_20 {cm sm fr lo L : Nat} {xs : Nat → Int32} {A B : gT} {U V : gU} {S : gS} {d : Nat → Nat} {X : mj_H} (hlo : 66 ≤ lo) (hd : dk d) (hn : ∀ k, U.2.2.2 k < 128) {i : Nat} (hi : i < 2 ^ 20) {j v : Nat} (hj : j < 2 ^ 20) (hv : v < 2 ^ 20) : eE mm_P cm sm (fr + 4) lo 24 [.ref 9, .int (nI (i)), .int (nI (j)), .int (nI (v)), .ref 20] (Gc L xs A B U V S d X) (.inl (none), Gc L xs A B U V S (fl d i j v (U.2.2.2)) X) := by
  have hs := sa_lt hd i j
  refine eE.of ?_
  refine eR.step 3 (F' := (3, [(0, .ref 9), (1, .int (nI (i))), (2, .int (nI (j))), (3, .int (nI (v))), (4, .ref 20)], [.int (nI (j)), .int (nI (i)), .ref 9])) (h' := (Gc L xs A B U V S d X)) (fun _ _ => rfl) ?_
  refine eR.call (k' := 25) (as := [.ref 9, .int (nI (i)), .int (nI (j))]) (rest := []) (v := some (.int (nI (sa d i j)))) (h1 := (Gc L xs A B U V S d X)) rfl rfl rfl rfl (eg (Nat.le_of_ble_eq_true rfl) (show 23 ≤ lo by omega) (Nat.le_of_ble_eq_true rfl)) (c_slotAt (show 21 ≤ lo - 23 by omega) hd hi hj) ?_
  refine eR.step 5 (F' := (15, [(0, .ref 9), (1, .int (nI (i))), (2, .int (nI (j))), (3, .int (nI (v))), (4, .ref 20), (5, .int (nI (sa d i j)))], [.int (nI (v)), .int (nI (sa d i j)), .ref 4])) (h' := (Gc L xs A B U V S d X)) (fun _ _ => rfl) ?_
  refine eR.call (k' := 10) (as := [.ref 4, .int (nI (sa d i j)), .int (nI (v))]) (rest := []) (v := none) (h1 := (Gc L xs A B U V S (dp d (sa d i j) v) X)) rfl rfl rfl rfl (eg (Nat.le_of_ble_eq_true rfl) (show 22 ≤ lo by omega) (Nat.le_of_ble_eq_true rfl)) (c_put (by omega)) ?_
  refine eR.step 2 (F' := (21, [(0, .ref 9), (1, .int (nI (i))), (2, .int (nI (j))), (3, .int (nI (v))), (4, .ref 20), (5, .int (nI (sa d i j))), (6, .int (nI 0))], [])) (h' := (Gc L xs A B U V S (dp d (sa d i j) v) X)) (fun _ _ => rfl) ?_
  exact l_fillN_20 hlo hn hv (by omega) 7 (dp d (sa d i j) v) 0 (dp_dk hd _ _) (by decide)
/-- a directory's first two slots -/
def sd (d : Nat → Nat) (i v : Nat) : Nat → Nat := fl (fl (ss (fh d i 0) i 16) i 0 i n0) i 1 v n1
theorem sd_dk {d : Nat → Nat} (h : dk d) (i v : Nat) : dk (sd d i v) := fl_dk (fl_dk (ss_dk (fh_dk h i 0) i 16) _ _ _ _) _ _ _ _
theorem c_startD {cm sm fr lo L : Nat} {xs : Nat → Int32} {A B : gT} {U V : gU} {S : gS} {d : Nat → Nat} {X : mj_H} (hlo : 92 ≤ lo) (hd : dk d) {i : Nat} (hi : i < 2 ^ 20) {v : Nat} (hv : v < 2 ^ 20) : eE mm_P cm sm (fr + 5) lo 17 [.ref 9, .int (nI (i)), .int (nI (v))] (Gc L xs A B U V S d X) (.inl (none), Gc L xs A B U V S (sd d i v) X) := by
  refine eE.of ?_
  refine eR.step 4 (F' := (6, [(0, .ref 9), (1, .int (nI (i))), (2, .int (nI (v)))], [.int (nI 0), .int (nI (i)), .ref 8])) (h' := (Gc L xs A B U V S d X)) (fun _ _ => rfl) ?_
  refine eR.call (k' := 18) (as := [.ref 8, .int (nI (i)), .int (nI 0)]) (rest := []) (v := none) (h1 := (Gc L xs A B U V S (fh d i 0) X)) rfl rfl rfl rfl (eg (Nat.le_of_ble_eq_true rfl) (show 23 ≤ lo by omega) (Nat.le_of_ble_eq_true rfl)) (c_fill (show 66 ≤ lo - 23 by omega) hd hi (by decide)) ?_
  refine eR.step 4 (F' := (16, [(0, .ref 9), (1, .int (nI (i))), (2, .int (nI (v)))], [.int (nI 16), .int (nI (i)), .ref 8])) (h' := (Gc L xs A B U V S (fh d i 0) X)) (fun _ _ => rfl) ?_
  refine eR.call (k' := 23) (as := [.ref 8, .int (nI (i)), .int (nI 16)]) (rest := []) (v := none) (h1 := (Gc L xs A B U V S (ss (fh d i 0) i 16) X)) rfl rfl rfl rfl (eg (Nat.le_of_ble_eq_true rfl) (show 23 ≤ lo by omega) (Nat.le_of_ble_eq_true rfl)) (c_setSize (show 22 ≤ lo - 23 by omega) hi (by decide)) ?_
  refine eR.step 5 (F' := (26, [(0, .ref 9), (1, .int (nI (i))), (2, .int (nI (v)))], [.ref 0, .int (nI (i)), .int (nI 0), .int (nI (i)), .ref 9])) (h' := (Gc L xs A B U V S (ss (fh d i 0) i 16) X)) (fun _ _ => rfl) ?_
  refine eR.call (k' := 24) (as := [.ref 9, .int (nI (i)), .int (nI 0), .int (nI (i)), .ref 0]) (rest := []) (v := none) (h1 := (Gc L xs A B U V S (fl (ss (fh d i 0) i 16) i 0 i n0) X)) rfl rfl rfl rfl (eg (Nat.le_of_ble_eq_true rfl) (show 26 ≤ lo by omega) (Nat.le_of_ble_eq_true rfl)) (c_fillS_0 (show 66 ≤ lo - 26 by omega) (ss_dk (fh_dk hd i 0) i 16) hi (by decide) hi) ?_
  refine eR.step 5 (F' := (36, [(0, .ref 9), (1, .int (nI (i))), (2, .int (nI (v)))], [.ref 1, .int (nI (v)), .int (nI 1), .int (nI (i)), .ref 9])) (h' := (Gc L xs A B U V S (fl (ss (fh d i 0) i 16) i 0 i n0) X)) (fun _ _ => rfl) ?_
  refine eR.call (k' := 24) (as := [.ref 9, .int (nI (i)), .int (nI 1), .int (nI (v)), .ref 1]) (rest := []) (v := none) (h1 := (Gc L xs A B U V S (sd d i v) X)) rfl rfl rfl rfl (eg (Nat.le_of_ble_eq_true rfl) (show 26 ≤ lo by omega) (Nat.le_of_ble_eq_true rfl)) (c_fillS_1 (show 66 ≤ lo - 26 by omega) (fl_dk (ss_dk (fh_dk hd i 0) i 16) _ _ _ _) hi (by decide) hv) ?_
  exact eR.ret rfl rfl rfl
def a1 (d : Nat → Nat) (i : Nat) : Nat → Nat := if nsl d i = sn d i then ss (fh d i (nsl d i / 4)) i ((nsl d i + 1) * 8) else d
theorem a1_dk {d : Nat → Nat} (h : dk d) (i : Nat) : dk (a1 d i) := by
  unfold a1
  split
  · exact ss_dk (fh_dk h _ _) _ _
  · exact h
/-- a name added to a directory -/
def ad (d : Nat → Nat) (i v : Nat) (nm : Nat → Nat) : Nat → Nat := fl (a1 d i) i (nsl d i) v nm
theorem ad_dk {d : Nat → Nat} (h : dk d) (i v : Nat) (nm : Nat → Nat) : dk (ad d i v nm) := fl_dk (a1_dk h i) _ _ _ _
theorem c_add {cm sm fr lo L : Nat} {xs : Nat → Int32} {A B : gT} {U V : gU} {S : gS} {d : Nat → Nat} {X : mj_H} (hlo : 92 ≤ lo) (hd : dk d) (hn : ∀ k, U.2.2.2 k < 128) {i : Nat} (hi : i < 2 ^ 20) {v : Nat} (hv : v < 2 ^ 20) : eE mm_P cm sm (fr + 5) lo 80 [.ref 9, .int (nI (i)), .int (nI (v)), .ref 20] (Gc L xs A B U V S d X) (.inl (none), Gc L xs A B U V S (ad d i v U.2.2.2) X) := by
  have h1 := nsl_lt d i
  have h2 := sn_le d i
  refine eE.of ?_
  refine eR.step 2 (F' := (2, [(0, .ref 9), (1, .int (nI (i))), (2, .int (nI (v))), (3, .ref 20)], [.int (nI (i)), .ref 9])) (h' := (Gc L xs A B U V S d X)) (fun _ _ => rfl) ?_
  refine eR.call (k' := 77) (as := [.ref 9, .int (nI (i))]) (rest := []) (v := some (.int (nI (nsl d i)))) (h1 := (Gc L xs A B U V S d X)) rfl rfl rfl rfl (eg (Nat.le_of_ble_eq_true rfl) (show 23 ≤ lo by omega) (Nat.le_of_ble_eq_true rfl)) (c_slotNew (show 66 ≤ lo - 23 by omega) hd hi) ?_
  refine eR.step 4 (F' := (11, [(0, .ref 9), (1, .int (nI (i))), (2, .int (nI (v))), (3, .ref 20), (4, .int (nI (nsl d i)))], [.int (nI (i)), .ref 9, .int (nI (nsl d i))])) (h' := (Gc L xs A B U V S d X)) (fun _ _ => rfl) ?_
  refine eR.call (k' := 50) (as := [.ref 9, .int (nI (i))]) (rest := [.int (nI (nsl d i))]) (v := some (.int (nI (sn d i)))) (h1 := (Gc L xs A B U V S d X)) rfl rfl rfl rfl (eg (Nat.le_of_ble_eq_true rfl) (show 21 ≤ lo by omega) (Nat.le_of_ble_eq_true rfl)) (c_slots (show 43 ≤ lo - 21 by omega) hd hi) ?_
  by_cases h : nsl d i = sn d i
  · have e : a1 d i = ss (fh d i (nsl d i / 4)) i ((nsl d i + 1) * 8) := by
      unfold a1
      rw [if_pos h]
    refine eR.icmp rfl false ((nc_ne (by omega) (by omega)).trans (decide_eq_false (by omega))) ?_
    refine eR.step 5 (F' := (25, [(0, .ref 9), (1, .int (nI (i))), (2, .int (nI (v))), (3, .ref 20), (4, .int (nI (nsl d i)))], [.int (nI 4), .int (nI (nsl d i)), .int (nI (i)), .ref 8])) (h' := (Gc L xs A B U V S d X)) (fun _ _ => rfl) ?_
    refine eR.ndiv rfl (by omega) (by decide) (by decide) ?_
    refine eR.call (k' := 18) (as := [.ref 8, .int (nI (i)), .int (nI ((nsl d i) / 4))]) (rest := []) (v := none) (h1 := (Gc L xs A B U V S (fh d i (nsl d i / 4)) X)) rfl rfl rfl rfl (eg (Nat.le_of_ble_eq_true rfl) (show 23 ≤ lo by omega) (Nat.le_of_ble_eq_true rfl)) (c_fill (show 66 ≤ lo - 23 by omega) hd hi (by omega)) ?_
    refine eR.step 5 (F' := (37, [(0, .ref 9), (1, .int (nI (i))), (2, .int (nI (v))), (3, .ref 20), (4, .int (nI (nsl d i)))], [.int (nI 1), .int (nI (nsl d i)), .int (nI (i)), .ref 8])) (h' := (Gc L xs A B U V S (fh d i (nsl d i / 4)) X)) (fun _ _ => rfl) ?_
    refine eR.nadd rfl ?_
    refine eR.step 1 (F' := (40, [(0, .ref 9), (1, .int (nI (i))), (2, .int (nI (v))), (3, .ref 20), (4, .int (nI (nsl d i)))], [.int (nI 8), .int (nI ((nsl d i) + 1)), .int (nI (i)), .ref 8])) (h' := (Gc L xs A B U V S (fh d i (nsl d i / 4)) X)) (fun _ _ => rfl) ?_
    refine eR.nmul rfl ?_
    refine eR.call (k' := 23) (as := [.ref 8, .int (nI (i)), .int (nI (((nsl d i) + 1) * 8))]) (rest := []) (v := none) (h1 := (Gc L xs A B U V S (a1 d i) X)) rfl rfl rfl rfl (eg (Nat.le_of_ble_eq_true rfl) (show 23 ≤ lo by omega) (Nat.le_of_ble_eq_true rfl)) (e ▸ c_setSize (show 22 ≤ lo - 23 by omega) hi (by omega)) ?_
    refine eR.step 5 (F' := (50, [(0, .ref 9), (1, .int (nI (i))), (2, .int (nI (v))), (3, .ref 20), (4, .int (nI (nsl d i)))], [.ref 20, .int (nI (v)), .int (nI (nsl d i)), .int (nI (i)), .ref 9])) (h' := (Gc L xs A B U V S (a1 d i) X)) (fun _ _ => rfl) ?_
    refine eR.call (k' := 24) (as := [.ref 9, .int (nI (i)), .int (nI (nsl d i)), .int (nI (v)), .ref 20]) (rest := []) (v := none) (h1 := (Gc L xs A B U V S (ad d i v U.2.2.2) X)) rfl rfl rfl rfl (eg (Nat.le_of_ble_eq_true rfl) (show 26 ≤ lo by omega) (Nat.le_of_ble_eq_true rfl)) (c_fillS_20 (show 66 ≤ lo - 26 by omega) (a1_dk hd i) hn hi (by omega) hv) ?_
    exact eR.ret rfl rfl rfl
  · have e : a1 d i = d := by
      unfold a1
      rw [if_neg h]
    unfold ad
    rw [e]
    refine eR.icmp rfl true ((nc_ne (by omega) (by omega)).trans (decide_eq_true (by omega))) ?_
    refine eR.step 5 (F' := (50, [(0, .ref 9), (1, .int (nI (i))), (2, .int (nI (v))), (3, .ref 20), (4, .int (nI (nsl d i)))], [.ref 20, .int (nI (v)), .int (nI (nsl d i)), .int (nI (i)), .ref 9])) (h' := (Gc L xs A B U V S d X)) (fun _ _ => rfl) ?_
    refine eR.call (k' := 24) (as := [.ref 9, .int (nI (i)), .int (nI (nsl d i)), .int (nI (v)), .ref 20]) (rest := []) (v := none) (h1 := (Gc L xs A B U V S (fl d i (nsl d i) v U.2.2.2) X)) rfl rfl rfl rfl (eg (Nat.le_of_ble_eq_true rfl) (show 26 ≤ lo by omega) (Nat.le_of_ble_eq_true rfl)) (c_fillS_20 (show 66 ≤ lo - 26 by omega) hd hn hi (by omega) hv) ?_
    exact eR.ret rfl rfl rfl

