theorem c_min {cm sm fr lo L : Nat} {xs : Nat → Int32} {A B : gT} {U V : gU} {S : gS} {d : Nat → Nat} {X : mj_H} {a b : Nat} (ha : a < 2 ^ 31) (hb : b < 2 ^ 31) : eE mm_P cm sm (fr + 1) lo 164 [.int (nI (a)), .int (nI (b))] (Gc L xs A B U V S d X) (.inl (some (.int (nI (min a b)))), Gc L xs A B U V S d X) := by
  by_cases h : a ≤ b
  · refine eE.of ?_
    rw [Nat.min_eq_left h]
    refine eR.step 2 (F' := (2, [(0, .int (nI (a))), (1, .int (nI (b)))], [.int (nI (b)), .int (nI (a))])) (h' := (Gc L xs A B U V S d X)) (fun _ _ => rfl) ?_
    refine eR.icmp rfl false ((nc_gt (by omega) (by omega)).trans (decide_eq_false (by omega))) ?_
    refine eR.step 2 (F' := (10, [(0, .int (nI (a))), (1, .int (nI (b)))], [.int (nI (a))])) (h' := (Gc L xs A B U V S d X)) (fun _ _ => rfl) ?_
    exact eR.ret rfl rfl rfl
  · refine eE.of ?_
    rw [Nat.min_eq_right (by omega)]
    refine eR.step 2 (F' := (2, [(0, .int (nI (a))), (1, .int (nI (b)))], [.int (nI (b)), .int (nI (a))])) (h' := (Gc L xs A B U V S d X)) (fun _ _ => rfl) ?_
    refine eR.icmp rfl true ((nc_gt (by omega) (by omega)).trans (decide_eq_true (by omega))) ?_
    refine eR.step 1 (F' := (10, [(0, .int (nI (a))), (1, .int (nI (b)))], [.int (nI (b))])) (h' := (Gc L xs A B U V S d X)) (fun _ _ => rfl) ?_
    exact eR.ret rfl rfl rfl
theorem c_max {cm sm fr lo L : Nat} {xs : Nat → Int32} {A B : gT} {U V : gU} {S : gS} {d : Nat → Nat} {X : mj_H} {a b : Nat} (ha : a < 2 ^ 31) (hb : b < 2 ^ 31) : eE mm_P cm sm (fr + 1) lo 165 [.int (nI (a)), .int (nI (b))] (Gc L xs A B U V S d X) (.inl (some (.int (nI (max a b)))), Gc L xs A B U V S d X) := by
  by_cases h : b ≤ a
  · refine eE.of ?_
    rw [Nat.max_eq_left h]
    refine eR.step 2 (F' := (2, [(0, .int (nI (a))), (1, .int (nI (b)))], [.int (nI (b)), .int (nI (a))])) (h' := (Gc L xs A B U V S d X)) (fun _ _ => rfl) ?_
    refine eR.icmp rfl false ((nc_lt (by omega) (by omega)).trans (decide_eq_false (by omega))) ?_
    refine eR.step 2 (F' := (10, [(0, .int (nI (a))), (1, .int (nI (b)))], [.int (nI (a))])) (h' := (Gc L xs A B U V S d X)) (fun _ _ => rfl) ?_
    exact eR.ret rfl rfl rfl
  · refine eE.of ?_
    rw [Nat.max_eq_right (by omega)]
    refine eR.step 2 (F' := (2, [(0, .int (nI (a))), (1, .int (nI (b)))], [.int (nI (b)), .int (nI (a))])) (h' := (Gc L xs A B U V S d X)) (fun _ _ => rfl) ?_
    refine eR.icmp rfl true ((nc_lt (by omega) (by omega)).trans (decide_eq_true (by omega))) ?_
    refine eR.step 1 (F' := (10, [(0, .int (nI (a))), (1, .int (nI (b)))], [.int (nI (b))])) (h' := (Gc L xs A B U V S d X)) (fun _ _ => rfl) ?_
    exact eR.ret rfl rfl rfl
/-- slots of a directory -/
def sn (d : Nat → Nat) (i : Nat) : Nat := min ((d (32 + (16 * i) + 2) + (256 * (d (32 + (16 * i) + 2 + 1)))) / 8) 24
theorem sn_le (d : Nat → Nat) (i : Nat) : sn d i ≤ 24 := Nat.min_le_right _ _
theorem c_slots {cm sm fr lo L : Nat} {xs : Nat → Int32} {A B : gT} {U V : gU} {S : gS} {d : Nat → Nat} {X : mj_H} (hlo : 43 ≤ lo) (hd : dk d) {i : Nat} (hi : i < 2 ^ 20) : eE mm_P cm sm (fr + 3) lo 50 [.ref 9, .int (nI (i))] (Gc L xs A B U V S d X) (.inl (some (.int (nI (sn d i)))), Gc L xs A B U V S d X) := by
  have h1 := hd.1 (32 + (16 * i) + 2)
  have h2 := hd.1 (32 + (16 * i) + 2 + 1)
  refine eE.of ?_
  refine eR.step 3 (F' := (5, [(0, .ref 9), (1, .int (nI (i)))], [.int (nI (i)), .ref 8])) (h' := (Gc L xs A B U V S d X)) (fun _ _ => rfl) ?_
  refine eR.call (k' := 51) (as := [.ref 8, .int (nI (i))]) (rest := []) (v := some (.int (nI (d (32 + (16 * i) + 2) + (256 * (d (32 + (16 * i) + 2 + 1))))))) (h1 := (Gc L xs A B U V S d X)) rfl rfl rfl rfl (eg (Nat.le_of_ble_eq_true rfl) (show 22 ≤ lo by omega) (Nat.le_of_ble_eq_true rfl)) (c_sizeI (show 21 ≤ lo - 22 by omega) hd hi) ?_
  refine eR.step 1 (F' := (10, [(0, .ref 9), (1, .int (nI (i)))], [.int (nI 8), .int (nI (d (32 + (16 * i) + 2) + (256 * (d (32 + (16 * i) + 2 + 1)))))])) (h' := (Gc L xs A B U V S d X)) (fun _ _ => rfl) ?_
  refine eR.ndiv rfl (by omega) (by decide) (by decide) ?_
  refine eR.step 1 (F' := (13, [(0, .ref 9), (1, .int (nI (i)))], [.int (nI 24), .int (nI ((d (32 + (16 * i) + 2) + (256 * (d (32 + (16 * i) + 2 + 1)))) / 8))])) (h' := (Gc L xs A B U V S d X)) (fun _ _ => rfl) ?_
  refine eR.call (k' := 164) (as := [.int (nI ((d (32 + (16 * i) + 2) + (256 * (d (32 + (16 * i) + 2 + 1)))) / 8)), .int (nI 24)]) (rest := []) (v := some (.int (nI (sn d i)))) (h1 := (Gc L xs A B U V S d X)) rfl rfl rfl rfl (eg (Nat.le_of_ble_eq_true rfl) (show 21 ≤ lo by omega) (Nat.le_of_ble_eq_true rfl)) (c_min (by omega) (by decide)) ?_
  exact eR.ret rfl rfl rfl
/-- where a slot lies -/
def sa (d : Nat → Nat) (i j : Nat) : Nat := ((d (32 + (16 * i) + 4 + (j / 4))) * 32) + ((j % 4) * 8)
theorem sa_lt {d : Nat → Nat} (h : dk d) (i j : Nat) : sa d i j < 8192 := by
  have := h.1 (32 + (16 * i) + 4 + (j / 4))
  unfold sa
  omega
theorem c_slotAt {cm sm fr lo L : Nat} {xs : Nat → Int32} {A B : gT} {U V : gU} {S : gS} {d : Nat → Nat} {X : mj_H} (hlo : 21 ≤ lo) (hd : dk d) {i : Nat} (hi : i < 2 ^ 20) {j : Nat} (hj : j < 2 ^ 20) : eE mm_P cm sm (fr + 2) lo 25 [.ref 9, .int (nI (i)), .int (nI (j))] (Gc L xs A B U V S d X) (.inl (some (.int (nI (sa d i j)))), Gc L xs A B U V S d X) := by
  refine eE.of ?_
  refine eR.step 3 (F' := (5, [(0, .ref 9), (1, .int (nI (i))), (2, .int (nI (j)))], [.int (nI (i)), .ref 4])) (h' := (Gc L xs A B U V S d X)) (fun _ _ => rfl) ?_
  refine eR.call (k' := 16) (as := [.int (nI (i))]) (rest := [.ref 4]) (v := some (.int (nI (32 + (16 * i))))) (h1 := (Gc L xs A B U V S d X)) rfl rfl rfl rfl (eg (Nat.le_of_ble_eq_true rfl) (show 20 ≤ lo by omega) (Nat.le_of_ble_eq_true rfl)) (c_start) ?_
  refine eR.step 1 (F' := (9, [(0, .ref 9), (1, .int (nI (i))), (2, .int (nI (j)))], [.int (nI 4), .int (nI (32 + (16 * i))), .ref 4])) (h' := (Gc L xs A B U V S d X)) (fun _ _ => rfl) ?_
  refine eR.nadd rfl ?_
  refine eR.step 2 (F' := (12, [(0, .ref 9), (1, .int (nI (i))), (2, .int (nI (j)))], [.int (nI 4), .int (nI (j)), .int (nI ((32 + (16 * i)) + 4)), .ref 4])) (h' := (Gc L xs A B U V S d X)) (fun _ _ => rfl) ?_
  refine eR.ndiv rfl (by omega) (by decide) (by decide) ?_
  refine eR.nadd rfl ?_
  refine eR.call (k' := 20) (as := [.ref 4, .int (nI (((32 + (16 * i)) + 4) + (j / 4)))]) (rest := []) (v := some (.int (nI (d (32 + (16 * i) + 4 + (j / 4)))))) (h1 := (Gc L xs A B U V S d X)) rfl rfl rfl rfl (eg (Nat.le_of_ble_eq_true rfl) (show 21 ≤ lo by omega) (Nat.le_of_ble_eq_true rfl)) (c_get hd (by omega)) ?_
  refine eR.step 3 (F' := (21, [(0, .ref 9), (1, .int (nI (i))), (2, .int (nI (j))), (3, .int (nI (d (32 + (16 * i) + 4 + (j / 4)))))], [.int (nI 32), .int (nI (d (32 + (16 * i) + 4 + (j / 4))))])) (h' := (Gc L xs A B U V S d X)) (fun _ _ => rfl) ?_
  refine eR.nmul rfl ?_
  refine eR.step 2 (F' := (24, [(0, .ref 9), (1, .int (nI (i))), (2, .int (nI (j))), (3, .int (nI (d (32 + (16 * i) + 4 + (j / 4)))))], [.int (nI 4), .int (nI (j)), .int (nI ((d (32 + (16 * i) + 4 + (j / 4))) * 32))])) (h' := (Gc L xs A B U V S d X)) (fun _ _ => rfl) ?_
  refine eR.nrem rfl (by omega) (by decide) (by decide) ?_
  refine eR.step 1 (F' := (27, [(0, .ref 9), (1, .int (nI (i))), (2, .int (nI (j))), (3, .int (nI (d (32 + (16 * i) + 4 + (j / 4)))))], [.int (nI 8), .int (nI (j % 4)), .int (nI ((d (32 + (16 * i) + 4 + (j / 4))) * 32))])) (h' := (Gc L xs A B U V S d X)) (fun _ _ => rfl) ?_
  refine eR.nmul rfl ?_
  refine eR.nadd rfl ?_
  exact eR.ret rfl rfl rfl
def si (d : Nat → Nat) (i j : Nat) : Nat := d (sa d i j)
theorem c_inodeIn {cm sm fr lo L : Nat} {xs : Nat → Int32} {A B : gT} {U V : gU} {S : gS} {d : Nat → Nat} {X : mj_H} (hlo : 44 ≤ lo) (hd : dk d) {i : Nat} (hi : i < 2 ^ 20) {j : Nat} (hj : j < 2 ^ 20) : eE mm_P cm sm (fr + 3) lo 52 [.ref 9, .int (nI (i)), .int (nI (j))] (Gc L xs A B U V S d X) (.inl (some (.int (nI (si d i j)))), Gc L xs A B U V S d X) := by
  refine eE.of ?_
  refine eR.step 5 (F' := (7, [(0, .ref 9), (1, .int (nI (i))), (2, .int (nI (j)))], [.int (nI (j)), .int (nI (i)), .ref 9, .ref 4])) (h' := (Gc L xs A B U V S d X)) (fun _ _ => rfl) ?_
  refine eR.call (k' := 25) (as := [.ref 9, .int (nI (i)), .int (nI (j))]) (rest := [.ref 4]) (v := some (.int (nI (sa d i j)))) (h1 := (Gc L xs A B U V S d X)) rfl rfl rfl rfl (eg (Nat.le_of_ble_eq_true rfl) (show 23 ≤ lo by omega) (Nat.le_of_ble_eq_true rfl)) (c_slotAt (show 21 ≤ lo - 23 by omega) hd hi hj) ?_
  refine eR.call (k' := 20) (as := [.ref 4, .int (nI (sa d i j))]) (rest := []) (v := some (.int (nI (si d i j)))) (h1 := (Gc L xs A B U V S d X)) rfl rfl rfl rfl (eg (Nat.le_of_ble_eq_true rfl) (show 21 ≤ lo by omega) (Nat.le_of_ble_eq_true rfl)) (c_get hd (by have := sa_lt hd i j; omega)) ?_
  exact eR.ret rfl rfl rfl
/-- whether n slots from j on are free -/
def em (d : Nat → Nat) (i : Nat) : Nat → Nat → Bool
  | _, 0 => true
  | j, n + 1 => if si d i j = 0 then em d i (j + 1) n else false
theorem l_empty {cm sm fr lo L : Nat} {xs : Nat → Int32} {A B : gT} {U V : gU} {S : gS} {d : Nat → Nat} {X : mj_H} (hlo : 66 ≤ lo) (hd : dk d) {i : Nat} (hi : i < 2 ^ 20) {m : Nat} (hm : m ≤ 24) : ∀ q j : Nat, m - j = q → j < 2 ^ 20 → eR mm_P cm sm (fr + 3) lo 93 (8, [(0, .ref 9), (1, .int (nI (i))), (2, .int (nI (m))), (3, .int (nI (j)))], []) (Gc L xs A B U V S d X) (.inl (some (.int (nI (bi (em d i j q))))), Gc L xs A B U V S d X)
  | 0, j, hq, hj => by
    refine eR.step 2 (F' := (10, [(0, .ref 9), (1, .int (nI (i))), (2, .int (nI (m))), (3, .int (nI (j)))], [.int (nI (m)), .int (nI (j))])) (h' := (Gc L xs A B U V S d X)) (fun _ _ => rfl) ?_
    refine eR.icmp rfl true ((nc_ge (by omega) (by omega)).trans (decide_eq_true (by omega))) ?_
    refine eR.step 1 (F' := (31, [(0, .ref 9), (1, .int (nI (i))), (2, .int (nI (m))), (3, .int (nI (j)))], [.int (nI 1)])) (h' := (Gc L xs A B U V S d X)) (fun _ _ => rfl) ?_
    exact eR.ret rfl rfl rfl
  | q + 1, j, hq, hj => by
    have hb : si d i j < 256 := hd.1 _
    unfold em
    refine eR.step 2 (F' := (10, [(0, .ref 9), (1, .int (nI (i))), (2, .int (nI (m))), (3, .int (nI (j)))], [.int (nI (m)), .int (nI (j))])) (h' := (Gc L xs A B U V S d X)) (fun _ _ => rfl) ?_
    refine eR.icmp rfl false ((nc_ge (by omega) (by omega)).trans (decide_eq_false (by omega))) ?_
    refine eR.step 3 (F' := (16, [(0, .ref 9), (1, .int (nI (i))), (2, .int (nI (m))), (3, .int (nI (j)))], [.int (nI (j)), .int (nI (i)), .ref 9])) (h' := (Gc L xs A B U V S d X)) (fun _ _ => rfl) ?_
    refine eR.call (k' := 52) (as := [.ref 9, .int (nI (i)), .int (nI (j))]) (rest := []) (v := some (.int (nI (si d i j)))) (h1 := (Gc L xs A B U V S d X)) rfl rfl rfl rfl (eg (Nat.le_of_ble_eq_true rfl) (show 22 ≤ lo by omega) (Nat.le_of_ble_eq_true rfl)) (c_inodeIn (show 44 ≤ lo - 22 by omega) hd hi hj) ?_
    by_cases h0 : si d i j = 0
    · rw [if_pos h0]
      refine eR.ifc rfl true ((nc_eq (b := 0) (by omega) (by decide)).trans (decide_eq_true (by omega))) ?_
      refine eR.step 1 (F' := (27, [(0, .ref 9), (1, .int (nI (i))), (2, .int (nI (m))), (3, .int (nI (j) + 1))], [])) (h' := (Gc L xs A B U V S d X)) (fun _ _ => rfl) ?_
      rw [show nI (j) + 1 = nI (j + 1) from nI_add (j) 1]
      refine eR.step 1 (F' := (8, [(0, .ref 9), (1, .int (nI (i))), (2, .int (nI (m))), (3, .int (nI (j + 1)))], [])) (h' := (Gc L xs A B U V S d X)) (fun _ _ => rfl) ?_
      exact l_empty hlo hd hi hm q (j + 1) (by omega) (by omega)
    · rw [if_neg h0]
      refine eR.ifc rfl false ((nc_eq (b := 0) (by omega) (by decide)).trans (decide_eq_false (by omega))) ?_
      refine eR.step 1 (F' := (23, [(0, .ref 9), (1, .int (nI (i))), (2, .int (nI (m))), (3, .int (nI (j)))], [.int (nI 0)])) (h' := (Gc L xs A B U V S d X)) (fun _ _ => rfl) ?_
      exact eR.ret rfl rfl rfl
theorem c_isEmpty {cm sm fr lo L : Nat} {xs : Nat → Int32} {A B : gT} {U V : gU} {S : gS} {d : Nat → Nat} {X : mj_H} (hlo : 66 ≤ lo) (hd : dk d) {i : Nat} (hi : i < 2 ^ 20) : eE mm_P cm sm (fr + 4) lo 93 [.ref 9, .int (nI (i))] (Gc L xs A B U V S d X) (.inl (some (.int (nI (bi (em d i 2 (sn d i - 2)))))), Gc L xs A B U V S d X) := by
  refine eE.of ?_
  refine eR.step 2 (F' := (2, [(0, .ref 9), (1, .int (nI (i)))], [.int (nI (i)), .ref 9])) (h' := (Gc L xs A B U V S d X)) (fun _ _ => rfl) ?_
  refine eR.call (k' := 50) (as := [.ref 9, .int (nI (i))]) (rest := []) (v := some (.int (nI (sn d i)))) (h1 := (Gc L xs A B U V S d X)) rfl rfl rfl rfl (eg (Nat.le_of_ble_eq_true rfl) (show 21 ≤ lo by omega) (Nat.le_of_ble_eq_true rfl)) (c_slots (show 43 ≤ lo - 21 by omega) hd hi) ?_
  refine eR.step 3 (F' := (8, [(0, .ref 9), (1, .int (nI (i))), (2, .int (nI (sn d i))), (3, .int (nI 2))], [])) (h' := (Gc L xs A B U V S d X)) (fun _ _ => rfl) ?_
  exact l_empty hlo hd hi (sn_le d i) _ 2 rfl (by decide)
/-- the first free one of n slots from j on, or e -/
def fs (d : Nat → Nat) (i e : Nat) : Nat → Nat → Nat
  | _, 0 => e
  | j, n + 1 => if si d i j = 0 then j else fs d i e (j + 1) n
/-- the slot that a new name gets, or 0 -/
def nsl (d : Nat → Nat) (i : Nat) : Nat := fs d i (if sn d i < 24 then sn d i else 0) 2 (sn d i - 2)
theorem fs_lt (d : Nat → Nat) (i e b : Nat) (he : e < b) : ∀ n j, j + n ≤ b → fs d i e j n < b
  | 0, _, _ => he
  | n + 1, j, h => by
    unfold fs
    split
    · omega
    · exact fs_lt d i e b he n (j + 1) (by omega)
theorem nsl_lt (d : Nat → Nat) (i : Nat) : nsl d i < 26 := by
  have := sn_le d i
  refine fs_lt d i _ 26 ?_ _ 2 (by omega)
  split <;> omega
theorem l_slotNew {cm sm fr lo L : Nat} {xs : Nat → Int32} {A B : gT} {U V : gU} {S : gS} {d : Nat → Nat} {X : mj_H} (hlo : 66 ≤ lo) (hd : dk d) {i : Nat} (hi : i < 2 ^ 20) {m : Nat} (hm : m ≤ 24) : ∀ q j : Nat, m - j = q → j < 2 ^ 20 → eR mm_P cm sm (fr + 3) lo 77 (8, [(0, .ref 9), (1, .int (nI (i))), (2, .int (nI (m))), (3, .int (nI (j)))], []) (Gc L xs A B U V S d X) (.inl (some (.int (nI (fs d i (if m < 24 then m else 0) j q)))), Gc L xs A B U V S d X)
  | 0, j, hq, hj => by
    refine eR.step 2 (F' := (10, [(0, .ref 9), (1, .int (nI (i))), (2, .int (nI (m))), (3, .int (nI (j)))], [.int (nI (m)), .int (nI (j))])) (h' := (Gc L xs A B U V S d X)) (fun _ _ => rfl) ?_
    refine eR.icmp rfl true ((nc_ge (by omega) (by omega)).trans (decide_eq_true (by omega))) ?_
    refine eR.step 2 (F' := (33, [(0, .ref 9), (1, .int (nI (i))), (2, .int (nI (m))), (3, .int (nI (j)))], [.int (nI 24), .int (nI (m))])) (h' := (Gc L xs A B U V S d X)) (fun _ _ => rfl) ?_
    unfold fs
    by_cases h24 : m < 24
    · rw [if_pos h24]
      refine eR.icmp rfl false ((nc_ge (by omega) (by decide)).trans (decide_eq_false (by omega))) ?_
      refine eR.step 2 (F' := (41, [(0, .ref 9), (1, .int (nI (i))), (2, .int (nI (m))), (3, .int (nI (j)))], [.int (nI (m))])) (h' := (Gc L xs A B U V S d X)) (fun _ _ => rfl) ?_
      exact eR.ret rfl rfl rfl
    · rw [if_neg h24]
      refine eR.icmp rfl true ((nc_ge (by omega) (by decide)).trans (decide_eq_true (by omega))) ?_
      refine eR.step 1 (F' := (41, [(0, .ref 9), (1, .int (nI (i))), (2, .int (nI (m))), (3, .int (nI (j)))], [.int (nI 0)])) (h' := (Gc L xs A B U V S d X)) (fun _ _ => rfl) ?_
      exact eR.ret rfl rfl rfl
  | q + 1, j, hq, hj => by
    have hb : si d i j < 256 := hd.1 _
    unfold fs
    refine eR.step 2 (F' := (10, [(0, .ref 9), (1, .int (nI (i))), (2, .int (nI (m))), (3, .int (nI (j)))], [.int (nI (m)), .int (nI (j))])) (h' := (Gc L xs A B U V S d X)) (fun _ _ => rfl) ?_
    refine eR.icmp rfl false ((nc_ge (by omega) (by omega)).trans (decide_eq_false (by omega))) ?_
    refine eR.step 3 (F' := (16, [(0, .ref 9), (1, .int (nI (i))), (2, .int (nI (m))), (3, .int (nI (j)))], [.int (nI (j)), .int (nI (i)), .ref 9])) (h' := (Gc L xs A B U V S d X)) (fun _ _ => rfl) ?_
    refine eR.call (k' := 52) (as := [.ref 9, .int (nI (i)), .int (nI (j))]) (rest := []) (v := some (.int (nI (si d i j)))) (h1 := (Gc L xs A B U V S d X)) rfl rfl rfl rfl (eg (Nat.le_of_ble_eq_true rfl) (show 22 ≤ lo by omega) (Nat.le_of_ble_eq_true rfl)) (c_inodeIn (show 44 ≤ lo - 22 by omega) hd hi hj) ?_
    by_cases h0 : si d i j = 0
    · rw [if_pos h0]
      refine eR.ifc rfl false ((nc_ne (b := 0) (by omega) (by decide)).trans (decide_eq_false (by omega))) ?_
      refine eR.step 1 (F' := (23, [(0, .ref 9), (1, .int (nI (i))), (2, .int (nI (m))), (3, .int (nI (j)))], [.int (nI (j))])) (h' := (Gc L xs A B U V S d X)) (fun _ _ => rfl) ?_
      exact eR.ret rfl rfl rfl
    · rw [if_neg h0]
      refine eR.ifc rfl true ((nc_ne (b := 0) (by omega) (by decide)).trans (decide_eq_true (by omega))) ?_
      refine eR.step 1 (F' := (27, [(0, .ref 9), (1, .int (nI (i))), (2, .int (nI (m))), (3, .int (nI (j) + 1))], [])) (h' := (Gc L xs A B U V S d X)) (fun _ _ => rfl) ?_
      rw [show nI (j) + 1 = nI (j + 1) from nI_add (j) 1]
      refine eR.step 1 (F' := (8, [(0, .ref 9), (1, .int (nI (i))), (2, .int (nI (m))), (3, .int (nI (j + 1)))], [])) (h' := (Gc L xs A B U V S d X)) (fun _ _ => rfl) ?_
      exact l_slotNew hlo hd hi hm q (j + 1) (by omega) (by omega)
theorem c_slotNew {cm sm fr lo L : Nat} {xs : Nat → Int32} {A B : gT} {U V : gU} {S : gS} {d : Nat → Nat} {X : mj_H} (hlo : 66 ≤ lo) (hd : dk d) {i : Nat} (hi : i < 2 ^ 20) : eE mm_P cm sm (fr + 4) lo 77 [.ref 9, .int (nI (i))] (Gc L xs A B U V S d X) (.inl (some (.int (nI (nsl d i)))), Gc L xs A B U V S d X) := by
  refine eE.of ?_
  refine eR.step 2 (F' := (2, [(0, .ref 9), (1, .int (nI (i)))], [.int (nI (i)), .ref 9])) (h' := (Gc L xs A B U V S d X)) (fun _ _ => rfl) ?_
  refine eR.call (k' := 50) (as := [.ref 9, .int (nI (i))]) (rest := []) (v := some (.int (nI (sn d i)))) (h1 := (Gc L xs A B U V S d X)) rfl rfl rfl rfl (eg (Nat.le_of_ble_eq_true rfl) (show 21 ≤ lo by omega) (Nat.le_of_ble_eq_true rfl)) (c_slots (show 43 ≤ lo - 21 by omega) hd hi) ?_
  refine eR.step 3 (F' := (8, [(0, .ref 9), (1, .int (nI (i))), (2, .int (nI (sn d i))), (3, .int (nI 2))], [])) (h' := (Gc L xs A B U V S d X)) (fun _ _ => rfl) ?_
  exact l_slotNew hlo hd hi (sn_le d i) _ 2 rfl (by decide)
def hr (d : Nat → Nat) (i v : Nat) : Bool := decide (nsl d i ≠ 0 ∧ bw d i (nsl d i / 4) (nsl d i / 4) + v ≤ cf d 3 9 55)
theorem ho_le (d : Nat → Nat) (i : Nat) : ∀ n w, ho d i w n ≤ n
  | 0, _ => Nat.le_refl _
  | n + 1, w => by
    have := ho_le d i n (w + 1)
    unfold ho
    split <;> omega
theorem bw_le (d : Nat → Nat) (i u v : Nat) : bw d i u v ≤ 1 + (v + 1 - u) := by
  have := ho_le d i (v + 1 - u) u
  unfold bw
  split <;> omega
theorem c_hasRoom {cm sm fr lo L : Nat} {xs : Nat → Int32} {A B : gT} {U V : gU} {S : gS} {d : Nat → Nat} {X : mj_H} (hlo : 91 ≤ lo) (hd : dk d) {i : Nat} (hi : i < 2 ^ 20) {v : Nat} (hv : v < 2 ^ 20) : eE mm_P cm sm (fr + 5) lo 76 [.ref 9, .int (nI (i)), .int (nI (v))] (Gc L xs A B U V S d X) (.inl (some (.int (nI (bi (hr d i v))))), Gc L xs A B U V S d X) := by
  have hn := nsl_lt d i
  have hwl := bw_le d i (nsl d i / 4) (nsl d i / 4)
  have hcl := cf_le d 3 55 9
  unfold hr
  by_cases h0 : nsl d i = 0
  · rw [decide_eq_false (fun z => z.1 h0)]
    refine eE.of ?_
    refine eR.step 2 (F' := (2, [(0, .ref 9), (1, .int (nI (i))), (2, .int (nI (v)))], [.int (nI (i)), .ref 9])) (h' := (Gc L xs A B U V S d X)) (fun _ _ => rfl) ?_
    refine eR.call (k' := 77) (as := [.ref 9, .int (nI (i))]) (rest := []) (v := some (.int (nI (nsl d i)))) (h1 := (Gc L xs A B U V S d X)) rfl rfl rfl rfl (eg (Nat.le_of_ble_eq_true rfl) (show 23 ≤ lo by omega) (Nat.le_of_ble_eq_true rfl)) (c_slotNew (show 66 ≤ lo - 23 by omega) hd hi) ?_
    refine eR.step 2 (F' := (7, [(0, .ref 9), (1, .int (nI (i))), (2, .int (nI (v))), (3, .int (nI (nsl d i)))], [.int (nI (nsl d i))])) (h' := (Gc L xs A B U V S d X)) (fun _ _ => rfl) ?_
    refine eR.ifc rfl false ((nc_ne (b := 0) (by omega) (by decide)).trans (decide_eq_false (by omega))) ?_
    refine eR.step 1 (F' := (11, [(0, .ref 9), (1, .int (nI (i))), (2, .int (nI (v))), (3, .int (nI (nsl d i)))], [.int (nI 0)])) (h' := (Gc L xs A B U V S d X)) (fun _ _ => rfl) ?_
    exact eR.ret rfl rfl rfl
  · refine eE.of ?_
    refine eR.step 2 (F' := (2, [(0, .ref 9), (1, .int (nI (i))), (2, .int (nI (v)))], [.int (nI (i)), .ref 9])) (h' := (Gc L xs A B U V S d X)) (fun _ _ => rfl) ?_
    refine eR.call (k' := 77) (as := [.ref 9, .int (nI (i))]) (rest := []) (v := some (.int (nI (nsl d i)))) (h1 := (Gc L xs A B U V S d X)) rfl rfl rfl rfl (eg (Nat.le_of_ble_eq_true rfl) (show 23 ≤ lo by omega) (Nat.le_of_ble_eq_true rfl)) (c_slotNew (show 66 ≤ lo - 23 by omega) hd hi) ?_
    refine eR.step 2 (F' := (7, [(0, .ref 9), (1, .int (nI (i))), (2, .int (nI (v))), (3, .int (nI (nsl d i)))], [.int (nI (nsl d i))])) (h' := (Gc L xs A B U V S d X)) (fun _ _ => rfl) ?_
    refine eR.ifc rfl true ((nc_ne (b := 0) (by omega) (by decide)).trans (decide_eq_true (by omega))) ?_
    refine eR.step 2 (F' := (14, [(0, .ref 9), (1, .int (nI (i))), (2, .int (nI (v))), (3, .int (nI (nsl d i)))], [.int (nI 4), .int (nI (nsl d i))])) (h' := (Gc L xs A B U V S d X)) (fun _ _ => rfl) ?_
    refine eR.ndiv rfl (by omega) (by decide) (by decide) ?_
    refine eR.step 6 (F' := (26, [(0, .ref 9), (1, .int (nI (i))), (2, .int (nI (v))), (3, .int (nI (nsl d i))), (4, .int (nI ((nsl d i) / 4)))], [.int (nI ((nsl d i) / 4)), .int (nI ((nsl d i) / 4)), .int (nI (i)), .ref 8])) (h' := (Gc L xs A B U V S d X)) (fun _ _ => rfl) ?_
    refine eR.call (k' := 78) (as := [.ref 8, .int (nI (i)), .int (nI ((nsl d i) / 4)), .int (nI ((nsl d i) / 4))]) (rest := []) (v := some (.int (nI (bw d i (nsl d i / 4) (nsl d i / 4))))) (h1 := (Gc L xs A B U V S d X)) rfl rfl rfl rfl (eg (Nat.le_of_ble_eq_true rfl) (show 25 ≤ lo by omega) (Nat.le_of_ble_eq_true rfl)) (c_wanted (show 66 ≤ lo - 25 by omega) hd hi (by omega) (by omega)) ?_
    refine eR.step 1 (F' := (30, [(0, .ref 9), (1, .int (nI (i))), (2, .int (nI (v))), (3, .int (nI (nsl d i))), (4, .int (nI ((nsl d i) / 4)))], [.int (nI (v)), .int (nI (bw d i (nsl d i / 4) (nsl d i / 4)))])) (h' := (Gc L xs A B U V S d X)) (fun _ _ => rfl) ?_
    refine eR.nadd rfl ?_
    refine eR.step 2 (F' := (35, [(0, .ref 9), (1, .int (nI (i))), (2, .int (nI (v))), (3, .int (nI (nsl d i))), (4, .int (nI ((nsl d i) / 4)))], [.ref 8, .int (nI ((bw d i (nsl d i / 4) (nsl d i / 4)) + v))])) (h' := (Gc L xs A B U V S d X)) (fun _ _ => rfl) ?_
    refine eR.call (k' := 79) (as := [.ref 8]) (rest := [.int (nI ((bw d i (nsl d i / 4) (nsl d i / 4)) + v))]) (v := some (.int (nI (cf d 3 9 55)))) (h1 := (Gc L xs A B U V S d X)) rfl rfl rfl rfl (eg (Nat.le_of_ble_eq_true rfl) (show 20 ≤ lo by omega) (Nat.le_of_ble_eq_true rfl)) (c_spaceLeft (show 45 ≤ lo - 20 by omega) hd) ?_
    by_cases h1 : bw d i (nsl d i / 4) (nsl d i / 4) + v ≤ cf d 3 9 55
    · rw [decide_eq_true ⟨h0, h1⟩]
      refine eR.icmp rfl false ((nc_gt (by omega) (by omega)).trans (decide_eq_false (by omega))) ?_
      refine eR.step 2 (F' := (46, [(0, .ref 9), (1, .int (nI (i))), (2, .int (nI (v))), (3, .int (nI (nsl d i))), (4, .int (nI ((nsl d i) / 4)))], [.int (nI 1)])) (h' := (Gc L xs A B U V S d X)) (fun _ _ => rfl) ?_
      exact eR.ret rfl rfl rfl
    · rw [decide_eq_false (fun z => h1 z.2)]
      refine eR.icmp rfl true ((nc_gt (by omega) (by omega)).trans (decide_eq_true (by omega))) ?_
      refine eR.step 1 (F' := (46, [(0, .ref 9), (1, .int (nI (i))), (2, .int (nI (v))), (3, .int (nI (nsl d i))), (4, .int (nI ((nsl d i) / 4)))], [.int (nI 0)])) (h' := (Gc L xs A B U V S d X)) (fun _ _ => rfl) ?_
      exact eR.ret rfl rfl rfl
theorem nI_m1 : (-1 : Int32) = nI 4294967295 := by decide +kernel
def al (d : Nat → Nat) (i v : Nat) : Nat → Nat := dp d (32 + (16 * i) + 1) (d (32 + (16 * i) + 1) + v)
theorem al_dk {d : Nat → Nat} (h : dk d) (i v : Nat) : dk (al d i v) := dp_dk h _ _
def fr_ (d : Nat → Nat) (i j : Nat) : Nat → Nat := cz (al d (si d i j) 4294967295) (sa d i j) 8
theorem fr_dk {d : Nat → Nat} (h : dk d) (i j : Nat) : dk (fr_ d i j) := cz_dk (al_dk h _ _) _ _
theorem c_free {cm sm fr lo L : Nat} {xs : Nat → Int32} {A B : gT} {U V : gU} {S : gS} {d : Nat → Nat} {X : mj_H} (hlo : 66 ≤ lo) (hd : dk d) {i : Nat} (hi : i < 2 ^ 20) {j : Nat} (hj : j < 2 ^ 20) : eE mm_P cm sm (fr + 4) lo 87 [.ref 9, .int (nI (i)), .int (nI (j))] (Gc L xs A B U V S d X) (.inl (none), Gc L xs A B U V S (fr_ d i j) X) := by
  have hs := sa_lt hd i j
  have hb : si d i j < 256 := hd.1 _
  refine eE.of ?_
  refine eR.step 3 (F' := (3, [(0, .ref 9), (1, .int (nI (i))), (2, .int (nI (j)))], [.int (nI (j)), .int (nI (i)), .ref 9])) (h' := (Gc L xs A B U V S d X)) (fun _ _ => rfl) ?_
  refine eR.call (k' := 25) (as := [.ref 9, .int (nI (i)), .int (nI (j))]) (rest := []) (v := some (.int (nI (sa d i j)))) (h1 := (Gc L xs A B U V S d X)) rfl rfl rfl rfl (eg (Nat.le_of_ble_eq_true rfl) (show 23 ≤ lo by omega) (Nat.le_of_ble_eq_true rfl)) (c_slotAt (show 21 ≤ lo - 23 by omega) hd hi hj) ?_
  refine eR.step 6 (F' := (16, [(0, .ref 9), (1, .int (nI (i))), (2, .int (nI (j))), (3, .int (nI (sa d i j)))], [.int (nI (sa d i j)), .ref 4, .ref 8])) (h' := (Gc L xs A B U V S d X)) (fun _ _ => rfl) ?_
  refine eR.call (k' := 20) (as := [.ref 4, .int (nI (sa d i j))]) (rest := [.ref 8]) (v := some (.int (nI (si d i j)))) (h1 := (Gc L xs A B U V S d X)) rfl rfl rfl rfl (eg (Nat.le_of_ble_eq_true rfl) (show 21 ≤ lo by omega) (Nat.le_of_ble_eq_true rfl)) (c_get hd (by omega)) ?_
  refine eR.step 1 (F' := (20, [(0, .ref 9), (1, .int (nI (i))), (2, .int (nI (j))), (3, .int (nI (sa d i j)))], [.int ((-1 : Int32)), .int (nI (si d i j)), .ref 8])) (h' := (Gc L xs A B U V S d X)) (fun _ _ => rfl) ?_
  rw [nI_m1]
  refine eR.call (k' := 26) (as := [.ref 8, .int (nI (si d i j)), .int (nI 4294967295)]) (rest := []) (v := none) (h1 := (Gc L xs A B U V S (al d (si d i j) 4294967295) X)) rfl rfl rfl rfl (eg (Nat.le_of_ble_eq_true rfl) (show 22 ≤ lo by omega) (Nat.le_of_ble_eq_true rfl)) (c_addLinks (show 44 ≤ lo - 22 by omega) hd (by omega)) ?_
  refine eR.step 4 (F' := (30, [(0, .ref 9), (1, .int (nI (i))), (2, .int (nI (j))), (3, .int (nI (sa d i j)))], [.int (nI 8), .int (nI (sa d i j)), .ref 4])) (h' := (Gc L xs A B U V S (al d (si d i j) 4294967295) X)) (fun _ _ => rfl) ?_
  refine eR.call (k' := 9) (as := [.ref 4, .int (nI (sa d i j)), .int (nI 8)]) (rest := []) (v := none) (h1 := (Gc L xs A B U V S (fr_ d i j) X)) rfl rfl rfl rfl (eg (Nat.le_of_ble_eq_true rfl) (show 23 ≤ lo by omega) (Nat.le_of_ble_eq_true rfl)) (c_clear (show 22 ≤ lo - 23 by omega) (al_dk hd _ _) (by omega) (by decide)) ?_
  exact eR.ret rfl rfl rfl
def pu (d : Nat → Nat) (i v : Nat) : Nat → Nat := al (dp (al d (si d i 1) 4294967295) (sa d i 1) v) v 1
theorem pu_dk {d : Nat → Nat} (h : dk d) (i v : Nat) : dk (pu d i v) := al_dk (dp_dk (al_dk h _ _) _ _) _ _
theorem c_putUnder {cm sm fr lo L : Nat} {xs : Nat → Int32} {A B : gT} {U V : gU} {S : gS} {d : Nat → Nat} {X : mj_H} (hlo : 66 ≤ lo) (hd : dk d) {i : Nat} (hi : i < 2 ^ 20) {v : Nat} (hv : v < 2 ^ 20) : eE mm_P cm sm (fr + 4) lo 97 [.ref 9, .int (nI (i)), .int (nI (v))] (Gc L xs A B U V S d X) (.inl (none), Gc L xs A B U V S (pu d i v) X) := by
  have hs := sa_lt hd i 1
  have hb : si d i 1 < 256 := hd.1 _
  refine eE.of ?_
  refine eR.step 3 (F' := (3, [(0, .ref 9), (1, .int (nI (i))), (2, .int (nI (v)))], [.int (nI 1), .int (nI (i)), .ref 9])) (h' := (Gc L xs A B U V S d X)) (fun _ _ => rfl) ?_
  refine eR.call (k' := 25) (as := [.ref 9, .int (nI (i)), .int (nI 1)]) (rest := []) (v := some (.int (nI (sa d i 1)))) (h1 := (Gc L xs A B U V S d X)) rfl rfl rfl rfl (eg (Nat.le_of_ble_eq_true rfl) (show 23 ≤ lo by omega) (Nat.le_of_ble_eq_true rfl)) (c_slotAt (show 21 ≤ lo - 23 by omega) hd hi (by decide)) ?_
  refine eR.step 6 (F' := (16, [(0, .ref 9), (1, .int (nI (i))), (2, .int (nI (v))), (3, .int (nI (sa d i 1)))], [.int (nI (sa d i 1)), .ref 4, .ref 8])) (h' := (Gc L xs A B U V S d X)) (fun _ _ => rfl) ?_
  refine eR.call (k' := 20) (as := [.ref 4, .int (nI (sa d i 1))]) (rest := [.ref 8]) (v := some (.int (nI (si d i 1)))) (h1 := (Gc L xs A B U V S d X)) rfl rfl rfl rfl (eg (Nat.le_of_ble_eq_true rfl) (show 21 ≤ lo by omega) (Nat.le_of_ble_eq_true rfl)) (c_get hd (by omega)) ?_
  refine eR.step 1 (F' := (20, [(0, .ref 9), (1, .int (nI (i))), (2, .int (nI (v))), (3, .int (nI (sa d i 1)))], [.int ((-1 : Int32)), .int (nI (si d i 1)), .ref 8])) (h' := (Gc L xs A B U V S d X)) (fun _ _ => rfl) ?_
  rw [nI_m1]
  refine eR.call (k' := 26) (as := [.ref 8, .int (nI (si d i 1)), .int (nI 4294967295)]) (rest := []) (v := none) (h1 := (Gc L xs A B U V S (al d (si d i 1) 4294967295) X)) rfl rfl rfl rfl (eg (Nat.le_of_ble_eq_true rfl) (show 22 ≤ lo by omega) (Nat.le_of_ble_eq_true rfl)) (c_addLinks (show 44 ≤ lo - 22 by omega) hd (by omega)) ?_
  refine eR.step 4 (F' := (29, [(0, .ref 9), (1, .int (nI (i))), (2, .int (nI (v))), (3, .int (nI (sa d i 1)))], [.int (nI (v)), .int (nI (sa d i 1)), .ref 4])) (h' := (Gc L xs A B U V S (al d (si d i 1) 4294967295) X)) (fun _ _ => rfl) ?_
  refine eR.call (k' := 10) (as := [.ref 4, .int (nI (sa d i 1)), .int (nI (v))]) (rest := []) (v := none) (h1 := (Gc L xs A B U V S (dp (al d (si d i 1) 4294967295) (sa d i 1) v) X)) rfl rfl rfl rfl (eg (Nat.le_of_ble_eq_true rfl) (show 22 ≤ lo by omega) (Nat.le_of_ble_eq_true rfl)) (c_put (by omega)) ?_
  refine eR.step 4 (F' := (38, [(0, .ref 9), (1, .int (nI (i))), (2, .int (nI (v))), (3, .int (nI (sa d i 1)))], [.int (nI 1), .int (nI (v)), .ref 8])) (h' := (Gc L xs A B U V S (dp (al d (si d i 1) 4294967295) (sa d i 1) v) X)) (fun _ _ => rfl) ?_
  refine eR.call (k' := 26) (as := [.ref 8, .int (nI (v)), .int (nI 1)]) (rest := []) (v := none) (h1 := (Gc L xs A B U V S (pu d i v) X)) rfl rfl rfl rfl (eg (Nat.le_of_ble_eq_true rfl) (show 22 ≤ lo by omega) (Nat.le_of_ble_eq_true rfl)) (c_addLinks (show 44 ≤ lo - 22 by omega) (dp_dk (al_dk hd _ _) _ _) hv) ?_
  exact eR.ret rfl rfl rfl
/-- going up n levels from i meets v -/
def up (d : Nat → Nat) (v : Nat) : Nat → Nat → Bool
  | _, 0 => false
  | i, n + 1 => if i = v then true else up d v (si d i 1) n
theorem l_lies {cm sm fr lo L : Nat} {xs : Nat → Int32} {A B : gT} {U V : gU} {S : gS} {d : Nat → Nat} {X : mj_H} (hlo : 66 ≤ lo) (hd : dk d) {u v : Nat} (hv : v < 2 ^ 20) : ∀ q i j : Nat, i < 2 ^ 20 → j + q = 16 → eR mm_P cm sm (fr + 3) lo 96 (5, [(0, .ref 9), (1, .int (nI (u))), (2, .int (nI (v))), (3, .int (nI (i))), (4, .int (nI (j)))], []) (Gc L xs A B U V S d X) (.inl (some (.int (nI (bi (up d v i q))))), Gc L xs A B U V S d X)
  | 0, i, j, hi, hj => by
    refine eR.step 2 (F' := (9, [(0, .ref 9), (1, .int (nI (u))), (2, .int (nI (v))), (3, .int (nI (i))), (4, .int (nI (j)))], [.int (nI 16), .int (nI (j))])) (h' := (Gc L xs A B U V S d X)) (fun _ _ => rfl) ?_
    refine eR.icmp rfl true ((nc_ge (by omega) (by decide)).trans (decide_eq_true (by omega))) ?_
    refine eR.step 1 (F' := (33, [(0, .ref 9), (1, .int (nI (u))), (2, .int (nI (v))), (3, .int (nI (i))), (4, .int (nI (j)))], [.int (nI 0)])) (h' := (Gc L xs A B U V S d X)) (fun _ _ => rfl) ?_
    exact eR.ret rfl rfl rfl
  | q + 1, i, j, hi, hj => by
    have hb : si d i 1 < 256 := hd.1 _
    unfold up
    refine eR.step 2 (F' := (9, [(0, .ref 9), (1, .int (nI (u))), (2, .int (nI (v))), (3, .int (nI (i))), (4, .int (nI (j)))], [.int (nI 16), .int (nI (j))])) (h' := (Gc L xs A B U V S d X)) (fun _ _ => rfl) ?_
    refine eR.icmp rfl false ((nc_ge (by omega) (by decide)).trans (decide_eq_false (by omega))) ?_
    refine eR.step 2 (F' := (14, [(0, .ref 9), (1, .int (nI (u))), (2, .int (nI (v))), (3, .int (nI (i))), (4, .int (nI (j)))], [.int (nI (v)), .int (nI (i))])) (h' := (Gc L xs A B U V S d X)) (fun _ _ => rfl) ?_
    by_cases h0 : i = v
    · rw [if_pos h0]
      refine eR.icmp rfl false ((nc_ne (by omega) (by omega)).trans (decide_eq_false (by omega))) ?_
      refine eR.step 1 (F' := (18, [(0, .ref 9), (1, .int (nI (u))), (2, .int (nI (v))), (3, .int (nI (i))), (4, .int (nI (j)))], [.int (nI 1)])) (h' := (Gc L xs A B U V S d X)) (fun _ _ => rfl) ?_
      exact eR.ret rfl rfl rfl
    · rw [if_neg h0]
      refine eR.icmp rfl true ((nc_ne (by omega) (by omega)).trans (decide_eq_true (by omega))) ?_
      refine eR.step 3 (F' := (22, [(0, .ref 9), (1, .int (nI (u))), (2, .int (nI (v))), (3, .int (nI (i))), (4, .int (nI (j)))], [.int (nI 1), .int (nI (i)), .ref 9])) (h' := (Gc L xs A B U V S d X)) (fun _ _ => rfl) ?_
      refine eR.call (k' := 52) (as := [.ref 9, .int (nI (i)), .int (nI 1)]) (rest := []) (v := some (.int (nI (si d i 1)))) (h1 := (Gc L xs A B U V S d X)) rfl rfl rfl rfl (eg (Nat.le_of_ble_eq_true rfl) (show 22 ≤ lo by omega) (Nat.le_of_ble_eq_true rfl)) (c_inodeIn (show 44 ≤ lo - 22 by omega) hd hi (by decide)) ?_
      refine eR.step 2 (F' := (29, [(0, .ref 9), (1, .int (nI (u))), (2, .int (nI (v))), (3, .int (nI (si d i 1))), (4, .int (nI (j) + 1))], [])) (h' := (Gc L xs A B U V S d X)) (fun _ _ => rfl) ?_
      rw [show nI (j) + 1 = nI (j + 1) from nI_add (j) 1]
      refine eR.step 1 (F' := (5, [(0, .ref 9), (1, .int (nI (u))), (2, .int (nI (v))), (3, .int (nI (si d i 1))), (4, .int (nI (j + 1)))], [])) (h' := (Gc L xs A B U V S d X)) (fun _ _ => rfl) ?_
      exact l_lies hlo hd hv q (si d i 1) (j + 1) (by omega) (by omega)
theorem c_lies {cm sm fr lo L : Nat} {xs : Nat → Int32} {A B : gT} {U V : gU} {S : gS} {d : Nat → Nat} {X : mj_H} (hlo : 66 ≤ lo) (hd : dk d) {u v : Nat} (hu : u < 2 ^ 20) (hv : v < 2 ^ 20) : eE mm_P cm sm (fr + 4) lo 96 [.ref 9, .int (nI (u)), .int (nI (v))] (Gc L xs A B U V S d X) (.inl (some (.int (nI (bi (up d v u 16))))), Gc L xs A B U V S d X) := by
  refine eE.of ?_
  refine eR.step 4 (F' := (5, [(0, .ref 9), (1, .int (nI (u))), (2, .int (nI (v))), (3, .int (nI (u))), (4, .int (nI 0))], [])) (h' := (Gc L xs A B U V S d X)) (fun _ _ => rfl) ?_
  exact l_lies hlo hd hv 16 u 0 hu (by decide)

