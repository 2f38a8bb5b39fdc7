/-- an index that may be none: -1 -/
def ei : Option Nat → Int32
  | none => -1
  | some e => nI e
def og (d : Nat → Nat) : Option Nat → Nat
  | none => 0
  | some e => d e
def op (d : Nat → Nat) : Option Nat → Nat → Nat → Nat
  | none, _ => d
  | some e, v => dp d e v
theorem op_dk {d : Nat → Nat} (h : dk d) (o : Option Nat) (v : Nat) : dk (op d o v) := by
  cases o
  · exact h
  · exact dp_dk h _ _
theorem og_lt {d : Nat → Nat} (h : dk d) (o : Option Nat) : og d o < 256 := by
  cases o
  · exact (by decide : (0 : Nat) < 256)
  · exact h.1 _
/-- the entry of a page -/
def eo (d : Nat → Nat) (i w : Nat) : Option Nat := if w < 6 then some (32 + (16 * i) + 4 + w) else if d (32 + (16 * i) + 10) = 0 then none else some ((d (32 + (16 * i) + 10) * 32) + w - 6)
theorem eo_lt {d : Nat → Nat} (hd : dk d) {i w : Nat} (hi : i < 2 ^ 20) (hw : w < 2 ^ 20) : ∀ e, eo d i w = some e → e < 2 ^ 30 := by
  intro e he
  have h1 := hd.1 (32 + (16 * i) + 10)
  unfold eo at he
  split at he
  · cases he
    omega
  · split at he
    · cases he
    · cases he
      omega
def bo (d : Nat → Nat) (i w : Nat) : Nat := og d (eo d i w)
theorem bo_lt {d : Nat → Nat} (h : dk d) (i w : Nat) : bo d i w < 256 := og_lt h _
theorem c_get_o {cm sm fr lo L : Nat} {xs : Nat → Int32} {A B : gT} {U V : gU} {S : gS} {d : Nat → Nat} {X : mj_H} (hd : dk d) {e : Option Nat} (he : ∀ q, e = some q → q < 2 ^ 30) : eE mm_P cm sm (fr + 1) lo 20 [.ref 4, .int (ei e)] (Gc L xs A B U V S d X) (.inl (some (.int (nI (og d e)))), Gc L xs A B U V S d X) := by
  cases e with
  | none => exact c_get_m
  | some q => exact c_get hd (by have := he q rfl; omega)
theorem c_put_o {cm sm fr lo L : Nat} {xs : Nat → Int32} {A B : gT} {U V : gU} {S : gS} {d : Nat → Nat} {X : mj_H} {e : Option Nat} {v : Nat} (he : ∀ q, e = some q → q < 2 ^ 30) : eE mm_P cm sm (fr + 1) lo 10 [.ref 4, .int (ei e), .int (nI v)] (Gc L xs A B U V S d X) (.inl none, Gc L xs A B U V S (op d e v) X) := by
  cases e with
  | none => exact c_put_m
  | some q => exact c_put (by have := he q rfl; omega)
theorem c_start {cm sm fr lo L : Nat} {xs : Nat → Int32} {A B : gT} {U V : gU} {S : gS} {d : Nat → Nat} {X : mj_H} {i : Nat} : eE mm_P cm sm (fr + 1) lo 16 [.int (nI (i))] (Gc L xs A B U V S d X) (.inl (some (.int (nI (32 + (16 * i))))), Gc L xs A B U V S d X) := by
  refine eE.of ?_
  refine eR.step 3 (F' := (5, [(0, .int (nI (i)))], [.int (nI (i)), .int (nI 16), .int (nI 32)])) (h' := (Gc L xs A B U V S d X)) (fun _ _ => rfl) ?_
  refine eR.nmul rfl ?_
  refine eR.nadd rfl ?_
  exact eR.ret rfl rfl rfl
theorem c_kind {cm sm fr lo L : Nat} {xs : Nat → Int32} {A B : gT} {U V : gU} {S : gS} {d : Nat → Nat} {X : mj_H} (hlo : 21 ≤ lo) (hd : dk d) {i : Nat} (hi : i < 2 ^ 20) : eE mm_P cm sm (fr + 2) lo 41 [.ref 8, .int (nI (i))] (Gc L xs A B U V S d X) (.inl (some (.int (nI (d (32 + (16 * i)))))), Gc L xs A B U V S d X) := by
  refine eE.of ?_
  refine eR.step 3 (F' := (5, [(0, .ref 8), (1, .int (nI (i)))], [.int (nI (i)), .ref 4])) (h' := (Gc L xs A B U V S d X)) (fun _ _ => rfl) ?_
  refine eR.call (k' := 16) (as := [.int (nI (i))]) (rest := [.ref 4]) (v := some (.int (nI (32 + (16 * i))))) (h1 := (Gc L xs A B U V S d X)) rfl rfl rfl rfl (eg (Nat.le_of_ble_eq_true rfl) (show 20 ≤ lo by omega) (Nat.le_of_ble_eq_true rfl)) (c_start) ?_
  refine eR.call (k' := 20) (as := [.ref 4, .int (nI (32 + (16 * i)))]) (rest := []) (v := some (.int (nI (d (32 + (16 * i)))))) (h1 := (Gc L xs A B U V S d X)) rfl rfl rfl rfl (eg (Nat.le_of_ble_eq_true rfl) (show 21 ≤ lo by omega) (Nat.le_of_ble_eq_true rfl)) (c_get hd (by omega)) ?_
  exact eR.ret rfl rfl rfl
theorem c_links {cm sm fr lo L : Nat} {xs : Nat → Int32} {A B : gT} {U V : gU} {S : gS} {d : Nat → Nat} {X : mj_H} (hlo : 21 ≤ lo) (hd : dk d) {i : Nat} (hi : i < 2 ^ 20) : eE mm_P cm sm (fr + 2) lo 27 [.ref 8, .int (nI (i))] (Gc L xs A B U V S d X) (.inl (some (.int (nI (d (32 + (16 * i) + 1))))), Gc L xs A B U V S d X) := by
  refine eE.of ?_
  refine eR.step 3 (F' := (5, [(0, .ref 8), (1, .int (nI (i)))], [.int (nI (i)), .ref 4])) (h' := (Gc L xs A B U V S d X)) (fun _ _ => rfl) ?_
  refine eR.call (k' := 16) (as := [.int (nI (i))]) (rest := [.ref 4]) (v := some (.int (nI (32 + (16 * i))))) (h1 := (Gc L xs A B U V S d X)) rfl rfl rfl rfl (eg (Nat.le_of_ble_eq_true rfl) (show 20 ≤ lo by omega) (Nat.le_of_ble_eq_true rfl)) (c_start) ?_
  refine eR.step 1 (F' := (9, [(0, .ref 8), (1, .int (nI (i)))], [.int (nI 1), .int (nI (32 + (16 * i))), .ref 4])) (h' := (Gc L xs A B U V S d X)) (fun _ _ => rfl) ?_
  refine eR.nadd rfl ?_
  refine eR.call (k' := 20) (as := [.ref 4, .int (nI ((32 + (16 * i)) + 1))]) (rest := []) (v := some (.int (nI (d (32 + (16 * i) + 1))))) (h1 := (Gc L xs A B U V S d X)) rfl rfl rfl rfl (eg (Nat.le_of_ble_eq_true rfl) (show 21 ≤ lo by omega) (Nat.le_of_ble_eq_true rfl)) (c_get hd (by omega)) ?_
  exact eR.ret rfl rfl rfl
theorem c_indirect {cm sm fr lo L : Nat} {xs : Nat → Int32} {A B : gT} {U V : gU} {S : gS} {d : Nat → Nat} {X : mj_H} (hlo : 21 ≤ lo) (hd : dk d) {i : Nat} (hi : i < 2 ^ 20) : eE mm_P cm sm (fr + 2) lo 19 [.ref 8, .int (nI (i))] (Gc L xs A B U V S d X) (.inl (some (.int (nI (d (32 + (16 * i) + 10))))), Gc L xs A B U V S d X) := by
  refine eE.of ?_
  refine eR.step 3 (F' := (5, [(0, .ref 8), (1, .int (nI (i)))], [.int (nI (i)), .ref 4])) (h' := (Gc L xs A B U V S d X)) (fun _ _ => rfl) ?_
  refine eR.call (k' := 16) (as := [.int (nI (i))]) (rest := [.ref 4]) (v := some (.int (nI (32 + (16 * i))))) (h1 := (Gc L xs A B U V S d X)) rfl rfl rfl rfl (eg (Nat.le_of_ble_eq_true rfl) (show 20 ≤ lo by omega) (Nat.le_of_ble_eq_true rfl)) (c_start) ?_
  refine eR.step 1 (F' := (10, [(0, .ref 8), (1, .int (nI (i)))], [.int (nI 10), .int (nI (32 + (16 * i))), .ref 4])) (h' := (Gc L xs A B U V S d X)) (fun _ _ => rfl) ?_
  refine eR.nadd rfl ?_
  refine eR.call (k' := 20) (as := [.ref 4, .int (nI ((32 + (16 * i)) + 10))]) (rest := []) (v := some (.int (nI (d (32 + (16 * i) + 10))))) (h1 := (Gc L xs A B U V S d X)) rfl rfl rfl rfl (eg (Nat.le_of_ble_eq_true rfl) (show 21 ≤ lo by omega) (Nat.le_of_ble_eq_true rfl)) (c_get hd (by omega)) ?_
  exact eR.ret rfl rfl rfl
theorem c_setLinks {cm sm fr lo L : Nat} {xs : Nat → Int32} {A B : gT} {U V : gU} {S : gS} {d : Nat → Nat} {X : mj_H} (hlo : 22 ≤ lo) {i : Nat} (hi : i < 2 ^ 20) {v : Nat} : eE mm_P cm sm (fr + 2) lo 28 [.ref 8, .int (nI (i)), .int (nI (v))] (Gc L xs A B U V S d X) (.inl (none), Gc L xs A B U V S (dp d (32 + (16 * i) + 1) v) X) := by
  refine eE.of ?_
  refine eR.step 3 (F' := (5, [(0, .ref 8), (1, .int (nI (i))), (2, .int (nI (v)))], [.int (nI (i)), .ref 4])) (h' := (Gc L xs A B U V S d X)) (fun _ _ => rfl) ?_
  refine eR.call (k' := 16) (as := [.int (nI (i))]) (rest := [.ref 4]) (v := some (.int (nI (32 + (16 * i))))) (h1 := (Gc L xs A B U V S d X)) rfl rfl rfl rfl (eg (Nat.le_of_ble_eq_true rfl) (show 20 ≤ lo by omega) (Nat.le_of_ble_eq_true rfl)) (c_start) ?_
  refine eR.step 1 (F' := (9, [(0, .ref 8), (1, .int (nI (i))), (2, .int (nI (v)))], [.int (nI 1), .int (nI (32 + (16 * i))), .ref 4])) (h' := (Gc L xs A B U V S d X)) (fun _ _ => rfl) ?_
  refine eR.nadd rfl ?_
  refine eR.step 1 (F' := (11, [(0, .ref 8), (1, .int (nI (i))), (2, .int (nI (v)))], [.int (nI (v)), .int (nI ((32 + (16 * i)) + 1)), .ref 4])) (h' := (Gc L xs A B U V S d X)) (fun _ _ => rfl) ?_
  refine eR.call (k' := 10) (as := [.ref 4, .int (nI ((32 + (16 * i)) + 1)), .int (nI (v))]) (rest := []) (v := none) (h1 := (Gc L xs A B U V S (dp d (32 + (16 * i) + 1) v) X)) rfl rfl rfl rfl (eg (Nat.le_of_ble_eq_true rfl) (show 22 ≤ lo by omega) (Nat.le_of_ble_eq_true rfl)) (c_put (by omega)) ?_
  exact eR.ret rfl rfl rfl
theorem c_addLinks {cm sm fr lo L : Nat} {xs : Nat → Int32} {A B : gT} {U V : gU} {S : gS} {d : Nat → Nat} {X : mj_H} (hlo : 44 ≤ lo) (hd : dk d) {i : Nat} (hi : i < 2 ^ 20) {v : Nat} : eE mm_P cm sm (fr + 3) lo 26 [.ref 8, .int (nI (i)), .int (nI (v))] (Gc L xs A B U V S d X) (.inl (none), Gc L xs A B U V S (dp d (32 + (16 * i) + 1) (d (32 + (16 * i) + 1) + v)) X) := by
  refine eE.of ?_
  refine eR.step 4 (F' := (4, [(0, .ref 8), (1, .int (nI (i))), (2, .int (nI (v)))], [.int (nI (i)), .ref 8, .int (nI (i)), .ref 8])) (h' := (Gc L xs A B U V S d X)) (fun _ _ => rfl) ?_
  refine eR.call (k' := 27) (as := [.ref 8, .int (nI (i))]) (rest := [.int (nI (i)), .ref 8]) (v := some (.int (nI (d (32 + (16 * i) + 1))))) (h1 := (Gc L xs A B U V S d X)) rfl rfl rfl rfl (eg (Nat.le_of_ble_eq_true rfl) (show 21 ≤ lo by omega) (Nat.le_of_ble_eq_true rfl)) (c_links (show 21 ≤ lo - 21 by omega) hd hi) ?_
  refine eR.step 1 (F' := (8, [(0, .ref 8), (1, .int (nI (i))), (2, .int (nI (v)))], [.int (nI (v)), .int (nI (d (32 + (16 * i) + 1))), .int (nI (i)), .ref 8])) (h' := (Gc L xs A B U V S d X)) (fun _ _ => rfl) ?_
  refine eR.nadd rfl ?_
  refine eR.call (k' := 28) (as := [.ref 8, .int (nI (i)), .int (nI ((d (32 + (16 * i) + 1)) + v))]) (rest := []) (v := none) (h1 := (Gc L xs A B U V S (dp d (32 + (16 * i) + 1) (d (32 + (16 * i) + 1) + v)) X)) rfl rfl rfl rfl (eg (Nat.le_of_ble_eq_true rfl) (show 22 ≤ lo by omega) (Nat.le_of_ble_eq_true rfl)) (c_setLinks (show 22 ≤ lo - 22 by omega) hi) ?_
  exact eR.ret rfl rfl rfl
theorem c_sizeI {cm sm fr lo L : Nat} {xs : Nat → Int32} {A B : gT} {U V : gU} {S : gS} {d : Nat → Nat} {X : mj_H} (hlo : 21 ≤ lo) (hd : dk d) {i : Nat} (hi : i < 2 ^ 20) : eE mm_P cm sm (fr + 2) lo 51 [.ref 8, .int (nI (i))] (Gc L xs A B U V S d X) (.inl (some (.int (nI (d (32 + (16 * i) + 2) + (256 * (d (32 + (16 * i) + 2 + 1))))))), Gc L xs A B U V S d X) := by
  refine eE.of ?_
  refine eR.step 1 (F' := (1, [(0, .ref 8), (1, .int (nI (i)))], [.int (nI (i))])) (h' := (Gc L xs A B U V S d X)) (fun _ _ => rfl) ?_
  refine eR.call (k' := 16) (as := [.int (nI (i))]) (rest := []) (v := some (.int (nI (32 + (16 * i))))) (h1 := (Gc L xs A B U V S d X)) rfl rfl rfl rfl (eg (Nat.le_of_ble_eq_true rfl) (show 20 ≤ lo by omega) (Nat.le_of_ble_eq_true rfl)) (c_start) ?_
  refine eR.step 1 (F' := (5, [(0, .ref 8), (1, .int (nI (i)))], [.int (nI 2), .int (nI (32 + (16 * i)))])) (h' := (Gc L xs A B U V S d X)) (fun _ _ => rfl) ?_
  refine eR.nadd rfl ?_
  refine eR.step 4 (F' := (12, [(0, .ref 8), (1, .int (nI (i))), (2, .int (nI ((32 + (16 * i)) + 2)))], [.int (nI ((32 + (16 * i)) + 2)), .ref 4])) (h' := (Gc L xs A B U V S d X)) (fun _ _ => rfl) ?_
  refine eR.call (k' := 20) (as := [.ref 4, .int (nI ((32 + (16 * i)) + 2))]) (rest := []) (v := some (.int (nI (d (32 + (16 * i) + 2))))) (h1 := (Gc L xs A B U V S d X)) rfl rfl rfl rfl (eg (Nat.le_of_ble_eq_true rfl) (show 21 ≤ lo by omega) (Nat.le_of_ble_eq_true rfl)) (c_get hd (by omega)) ?_
  refine eR.step 5 (F' := (24, [(0, .ref 8), (1, .int (nI (i))), (2, .int (nI ((32 + (16 * i)) + 2)))], [.int (nI 1), .int (nI ((32 + (16 * i)) + 2)), .ref 4, .int (nI 256), .int (nI (d (32 + (16 * i) + 2)))])) (h' := (Gc L xs A B U V S d X)) (fun _ _ => rfl) ?_
  refine eR.nadd rfl ?_
  refine eR.call (k' := 20) (as := [.ref 4, .int (nI (((32 + (16 * i)) + 2) + 1))]) (rest := [.int (nI 256), .int (nI (d (32 + (16 * i) + 2)))]) (v := some (.int (nI (d (32 + (16 * i) + 2 + 1))))) (h1 := (Gc L xs A B U V S d X)) rfl rfl rfl rfl (eg (Nat.le_of_ble_eq_true rfl) (show 21 ≤ lo by omega) (Nat.le_of_ble_eq_true rfl)) (c_get hd (by omega)) ?_
  refine eR.nmul rfl ?_
  refine eR.nadd rfl ?_
  exact eR.ret rfl rfl rfl
def ss (d : Nat → Nat) (i v : Nat) : Nat → Nat := dp (dp d (32 + (16 * i) + 2) v) (32 + (16 * i) + 2 + 1) (v / 256)
theorem ss_dk {d : Nat → Nat} (h : dk d) (i v : Nat) : dk (ss d i v) := dp_dk (dp_dk h _ _) _ _
theorem c_setSize {cm sm fr lo L : Nat} {xs : Nat → Int32} {A B : gT} {U V : gU} {S : gS} {d : Nat → Nat} {X : mj_H} (hlo : 22 ≤ lo) {i : Nat} (hi : i < 2 ^ 20) {v : Nat} (hv : v < 2 ^ 31) : eE mm_P cm sm (fr + 2) lo 23 [.ref 8, .int (nI (i)), .int (nI (v))] (Gc L xs A B U V S d X) (.inl (none), Gc L xs A B U V S (ss d i v) X) := by
  refine eE.of ?_
  refine eR.step 1 (F' := (1, [(0, .ref 8), (1, .int (nI (i))), (2, .int (nI (v)))], [.int (nI (i))])) (h' := (Gc L xs A B U V S d X)) (fun _ _ => rfl) ?_
  refine eR.call (k' := 16) (as := [.int (nI (i))]) (rest := []) (v := some (.int (nI (32 + (16 * i))))) (h1 := (Gc L xs A B U V S d X)) rfl rfl rfl rfl (eg (Nat.le_of_ble_eq_true rfl) (show 20 ≤ lo by omega) (Nat.le_of_ble_eq_true rfl)) (c_start) ?_
  refine eR.step 1 (F' := (5, [(0, .ref 8), (1, .int (nI (i))), (2, .int (nI (v)))], [.int (nI 2), .int (nI (32 + (16 * i)))])) (h' := (Gc L xs A B U V S d X)) (fun _ _ => rfl) ?_
  refine eR.nadd rfl ?_
  refine eR.step 5 (F' := (13, [(0, .ref 8), (1, .int (nI (i))), (2, .int (nI (v))), (3, .int (nI ((32 + (16 * i)) + 2)))], [.int (nI (v)), .int (nI ((32 + (16 * i)) + 2)), .ref 4])) (h' := (Gc L xs A B U V S d X)) (fun _ _ => rfl) ?_
  refine eR.call (k' := 10) (as := [.ref 4, .int (nI ((32 + (16 * i)) + 2)), .int (nI (v))]) (rest := []) (v := none) (h1 := (Gc L xs A B U V S (dp d (32 + (16 * i) + 2) v) X)) rfl rfl rfl rfl (eg (Nat.le_of_ble_eq_true rfl) (show 22 ≤ lo by omega) (Nat.le_of_ble_eq_true rfl)) (c_put (by omega)) ?_
  refine eR.step 4 (F' := (22, [(0, .ref 8), (1, .int (nI (i))), (2, .int (nI (v))), (3, .int (nI ((32 + (16 * i)) + 2)))], [.int (nI 1), .int (nI ((32 + (16 * i)) + 2)), .ref 4])) (h' := (Gc L xs A B U V S (dp d (32 + (16 * i) + 2) v) X)) (fun _ _ => rfl) ?_
  refine eR.nadd rfl ?_
  refine eR.step 2 (F' := (27, [(0, .ref 8), (1, .int (nI (i))), (2, .int (nI (v))), (3, .int (nI ((32 + (16 * i)) + 2)))], [.int (nI 256), .int (nI (v)), .int (nI (((32 + (16 * i)) + 2) + 1)), .ref 4])) (h' := (Gc L xs A B U V S (dp d (32 + (16 * i) + 2) v) X)) (fun _ _ => rfl) ?_
  refine eR.ndiv rfl (by omega) (by decide) (by decide) ?_
  refine eR.call (k' := 10) (as := [.ref 4, .int (nI (((32 + (16 * i)) + 2) + 1)), .int (nI (v / 256))]) (rest := []) (v := none) (h1 := (Gc L xs A B U V S (ss d i v) X)) rfl rfl rfl rfl (eg (Nat.le_of_ble_eq_true rfl) (show 22 ≤ lo by omega) (Nat.le_of_ble_eq_true rfl)) (c_put (by omega)) ?_
  exact eR.ret rfl rfl rfl
theorem c_entryOf {cm sm fr lo L : Nat} {xs : Nat → Int32} {A B : gT} {U V : gU} {S : gS} {d : Nat → Nat} {X : mj_H} (hlo : 21 ≤ lo) (hd : dk d) {i : Nat} (hi : i < 2 ^ 20) {w : Nat} (hw : w < 2 ^ 20) : eE mm_P cm sm (fr + 2) lo 22 [.ref 8, .int (nI (i)), .int (nI (w))] (Gc L xs A B U V S d X) (.inl (some (.int (ei (eo d i w)))), Gc L xs A B U V S d X) := by
  unfold eo
  by_cases h : w < 6
  · rw [if_pos h]
    refine eE.of ?_
    refine eR.step 2 (F' := (3, [(0, .ref 8), (1, .int (nI (i))), (2, .int (nI (w)))], [.int (nI 6), .int (nI (w))])) (h' := (Gc L xs A B U V S d X)) (fun _ _ => rfl) ?_
    refine eR.icmp rfl false ((nc_ge (by omega) (by decide)).trans (decide_eq_false (by omega))) ?_
    refine eR.step 1 (F' := (7, [(0, .ref 8), (1, .int (nI (i))), (2, .int (nI (w)))], [.int (nI (i))])) (h' := (Gc L xs A B U V S d X)) (fun _ _ => rfl) ?_
    refine eR.call (k' := 16) (as := [.int (nI (i))]) (rest := []) (v := some (.int (nI (32 + (16 * i))))) (h1 := (Gc L xs A B U V S d X)) rfl rfl rfl rfl (eg (Nat.le_of_ble_eq_true rfl) (show 20 ≤ lo by omega) (Nat.le_of_ble_eq_true rfl)) (c_start) ?_
    refine eR.step 1 (F' := (11, [(0, .ref 8), (1, .int (nI (i))), (2, .int (nI (w)))], [.int (nI 4), .int (nI (32 + (16 * i)))])) (h' := (Gc L xs A B U V S d X)) (fun _ _ => rfl) ?_
    refine eR.nadd rfl ?_
    refine eR.step 1 (F' := (13, [(0, .ref 8), (1, .int (nI (i))), (2, .int (nI (w)))], [.int (nI (w)), .int (nI ((32 + (16 * i)) + 4))])) (h' := (Gc L xs A B U V S d X)) (fun _ _ => rfl) ?_
    refine eR.nadd rfl ?_
    exact eR.ret rfl rfl rfl
  · rw [if_neg h]
    refine eE.of ?_
    refine eR.step 2 (F' := (3, [(0, .ref 8), (1, .int (nI (i))), (2, .int (nI (w)))], [.int (nI 6), .int (nI (w))])) (h' := (Gc L xs A B U V S d X)) (fun _ _ => rfl) ?_
    refine eR.icmp rfl true ((nc_ge (by omega) (by decide)).trans (decide_eq_true (by omega))) ?_
    refine eR.step 3 (F' := (20, [(0, .ref 8), (1, .int (nI (i))), (2, .int (nI (w)))], [.int (nI (i)), .ref 4])) (h' := (Gc L xs A B U V S d X)) (fun _ _ => rfl) ?_
    refine eR.call (k' := 16) (as := [.int (nI (i))]) (rest := [.ref 4]) (v := some (.int (nI (32 + (16 * i))))) (h1 := (Gc L xs A B U V S d X)) rfl rfl rfl rfl (eg (Nat.le_of_ble_eq_true rfl) (show 20 ≤ lo by omega) (Nat.le_of_ble_eq_true rfl)) (c_start) ?_
    refine eR.step 1 (F' := (25, [(0, .ref 8), (1, .int (nI (i))), (2, .int (nI (w)))], [.int (nI 10), .int (nI (32 + (16 * i))), .ref 4])) (h' := (Gc L xs A B U V S d X)) (fun _ _ => rfl) ?_
    refine eR.nadd rfl ?_
    refine eR.call (k' := 20) (as := [.ref 4, .int (nI ((32 + (16 * i)) + 10))]) (rest := []) (v := some (.int (nI (d (32 + (16 * i) + 10))))) (h1 := (Gc L xs A B U V S d X)) rfl rfl rfl rfl (eg (Nat.le_of_ble_eq_true rfl) (show 21 ≤ lo by omega) (Nat.le_of_ble_eq_true rfl)) (c_get hd (by omega)) ?_
    refine eR.step 2 (F' := (31, [(0, .ref 8), (1, .int (nI (i))), (2, .int (nI (w))), (3, .int (nI (d (32 + (16 * i) + 10))))], [.int (nI (d (32 + (16 * i) + 10)))])) (h' := (Gc L xs A B U V S d X)) (fun _ _ => rfl) ?_
    have hb := hd.1 (32 + (16 * i) + 10)
    by_cases h0 : d (32 + (16 * i) + 10) = 0
    · rw [if_pos h0]
      refine eR.ifc rfl false ((nc_ne (b := 0) (by omega) (by decide)).trans (decide_eq_false (by omega))) ?_
      refine eR.step 2 (F' := (47, [(0, .ref 8), (1, .int (nI (i))), (2, .int (nI (w))), (3, .int (nI (d (32 + (16 * i) + 10))))], [.int ((-1 : Int32))])) (h' := (Gc L xs A B U V S d X)) (fun _ _ => rfl) ?_
      exact eR.ret rfl rfl rfl
    · rw [if_neg h0]
      refine eR.ifc rfl true ((nc_ne (b := 0) (by omega) (by decide)).trans (decide_eq_true (by omega))) ?_
      refine eR.step 2 (F' := (41, [(0, .ref 8), (1, .int (nI (i))), (2, .int (nI (w))), (3, .int (nI (d (32 + (16 * i) + 10))))], [.int (nI 32), .int (nI (d (32 + (16 * i) + 10)))])) (h' := (Gc L xs A B U V S d X)) (fun _ _ => rfl) ?_
      refine eR.nmul rfl ?_
      refine eR.step 1 (F' := (43, [(0, .ref 8), (1, .int (nI (i))), (2, .int (nI (w))), (3, .int (nI (d (32 + (16 * i) + 10))))], [.int (nI (w)), .int (nI ((d (32 + (16 * i) + 10)) * 32))])) (h' := (Gc L xs A B U V S d X)) (fun _ _ => rfl) ?_
      refine eR.nadd rfl ?_
      refine eR.step 1 (F' := (46, [(0, .ref 8), (1, .int (nI (i))), (2, .int (nI (w))), (3, .int (nI (d (32 + (16 * i) + 10))))], [.int (nI 6), .int (nI (((d (32 + (16 * i) + 10)) * 32) + w))])) (h' := (Gc L xs A B U V S d X)) (fun _ _ => rfl) ?_
      refine eR.nsub rfl (by omega) ?_
      exact eR.ret rfl rfl rfl
theorem c_blockOf {cm sm fr lo L : Nat} {xs : Nat → Int32} {A B : gT} {U V : gU} {S : gS} {d : Nat → Nat} {X : mj_H} (hlo : 44 ≤ lo) (hd : dk d) {i : Nat} (hi : i < 2 ^ 20) {w : Nat} (hw : w < 2 ^ 20) : eE mm_P cm sm (fr + 3) lo 48 [.ref 8, .int (nI (i)), .int (nI (w))] (Gc L xs A B U V S d X) (.inl (some (.int (nI (bo d i w)))), Gc L xs A B U V S d X) := by
  refine eE.of ?_
  refine eR.step 5 (F' := (7, [(0, .ref 8), (1, .int (nI (i))), (2, .int (nI (w)))], [.int (nI (w)), .int (nI (i)), .ref 8, .ref 4])) (h' := (Gc L xs A B U V S d X)) (fun _ _ => rfl) ?_
  refine eR.call (k' := 22) (as := [.ref 8, .int (nI (i)), .int (nI (w))]) (rest := [.ref 4]) (v := some (.int (ei (eo d i w)))) (h1 := (Gc L xs A B U V S d X)) rfl rfl rfl rfl (eg (Nat.le_of_ble_eq_true rfl) (show 23 ≤ lo by omega) (Nat.le_of_ble_eq_true rfl)) (c_entryOf (show 21 ≤ lo - 23 by omega) hd hi hw) ?_
  refine eR.call (k' := 20) (as := [.ref 4, .int (ei (eo d i w))]) (rest := []) (v := some (.int (nI (bo d i w)))) (h1 := (Gc L xs A B U V S d X)) rfl rfl rfl rfl (eg (Nat.le_of_ble_eq_true rfl) (show 21 ≤ lo by omega) (Nat.le_of_ble_eq_true rfl)) (c_get_o hd (eo_lt hd hi hw)) ?_
  exact eR.ret rfl rfl rfl
def gy (d : Nat → Nat) (i f : Nat) : Nat := if bo d i (f / 32) = 0 then 0 else d (((bo d i (f / 32)) * 32) + (f % 32))
def py (d : Nat → Nat) (i f v : Nat) : Nat → Nat := if bo d i (f / 32) = 0 then d else dp d (((bo d i (f / 32)) * 32) + (f % 32)) v
theorem gy_lt {d : Nat → Nat} (h : dk d) (i f : Nat) : gy d i f < 256 := by
  unfold gy
  split
  · decide
  · exact h.1 _
theorem py_dk {d : Nat → Nat} (h : dk d) (i f v : Nat) : dk (py d i f v) := by
  unfold py
  split
  · exact h
  · exact dp_dk h _ _
theorem c_getByte {cm sm fr lo L : Nat} {xs : Nat → Int32} {A B : gT} {U V : gU} {S : gS} {d : Nat → Nat} {X : mj_H} (hlo : 66 ≤ lo) (hd : dk d) {i : Nat} (hi : i < 2 ^ 20) {f : Nat} (hf : f < 2 ^ 20) : eE mm_P cm sm (fr + 4) lo 101 [.ref 8, .int (nI (i)), .int (nI (f))] (Gc L xs A B U V S d X) (.inl (some (.int (nI (gy d i f)))), Gc L xs A B U V S d X) := by
  refine eE.of ?_
  refine eR.step 4 (F' := (5, [(0, .ref 8), (1, .int (nI (i))), (2, .int (nI (f)))], [.int (nI 32), .int (nI (f)), .int (nI (i)), .ref 8])) (h' := (Gc L xs A B U V S d X)) (fun _ _ => rfl) ?_
  refine eR.ndiv rfl (by omega) (by decide) (by decide) ?_
  refine eR.call (k' := 48) (as := [.ref 8, .int (nI (i)), .int (nI (f / 32))]) (rest := []) (v := some (.int (nI (bo d i (f / 32))))) (h1 := (Gc L xs A B U V S d X)) rfl rfl rfl rfl (eg (Nat.le_of_ble_eq_true rfl) (show 22 ≤ lo by omega) (Nat.le_of_ble_eq_true rfl)) (c_blockOf (show 44 ≤ lo - 22 by omega) hd hi (by omega)) ?_
  refine eR.step 2 (F' := (11, [(0, .ref 8), (1, .int (nI (i))), (2, .int (nI (f))), (3, .int (nI (bo d i (f / 32))))], [.int (nI (bo d i (f / 32)))])) (h' := (Gc L xs A B U V S d X)) (fun _ _ => rfl) ?_
  have hb := bo_lt hd i (f / 32)
  unfold gy
  by_cases h0 : bo d i (f / 32) = 0
  · rw [if_pos h0]
    refine eR.ifc rfl false ((nc_ne (b := 0) (by omega) (by decide)).trans (decide_eq_false (by omega))) ?_
    refine eR.step 2 (F' := (34, [(0, .ref 8), (1, .int (nI (i))), (2, .int (nI (f))), (3, .int (nI (bo d i (f / 32))))], [.int (nI 0)])) (h' := (Gc L xs A B U V S d X)) (fun _ _ => rfl) ?_
    exact eR.ret rfl rfl rfl
  · rw [if_neg h0]
    refine eR.ifc rfl true ((nc_ne (b := 0) (by omega) (by decide)).trans (decide_eq_true (by omega))) ?_
    refine eR.step 4 (F' := (25, [(0, .ref 8), (1, .int (nI (i))), (2, .int (nI (f))), (3, .int (nI (bo d i (f / 32))))], [.int (nI 32), .int (nI (bo d i (f / 32))), .ref 4])) (h' := (Gc L xs A B U V S d X)) (fun _ _ => rfl) ?_
    refine eR.nmul rfl ?_
    refine eR.step 2 (F' := (29, [(0, .ref 8), (1, .int (nI (i))), (2, .int (nI (f))), (3, .int (nI (bo d i (f / 32))))], [.int (nI 32), .int (nI (f)), .int (nI ((bo d i (f / 32)) * 32)), .ref 4])) (h' := (Gc L xs A B U V S d X)) (fun _ _ => rfl) ?_
    refine eR.nrem rfl (by omega) (by decide) (by decide) ?_
    refine eR.nadd rfl ?_
    refine eR.call (k' := 20) (as := [.ref 4, .int (nI (((bo d i (f / 32)) * 32) + (f % 32)))]) (rest := []) (v := some (.int (nI (d (((bo d i (f / 32)) * 32) + (f % 32)))))) (h1 := (Gc L xs A B U V S d X)) rfl rfl rfl rfl (eg (Nat.le_of_ble_eq_true rfl) (show 21 ≤ lo by omega) (Nat.le_of_ble_eq_true rfl)) (c_get hd (by omega)) ?_
    exact eR.ret rfl rfl rfl
theorem c_putByte {cm sm fr lo L : Nat} {xs : Nat → Int32} {A B : gT} {U V : gU} {S : gS} {d : Nat → Nat} {X : mj_H} (hlo : 66 ≤ lo) (hd : dk d) {i : Nat} (hi : i < 2 ^ 20) {f : Nat} (hf : f < 2 ^ 20) {v : Nat} : eE mm_P cm sm (fr + 4) lo 99 [.ref 8, .int (nI (i)), .int (nI (f)), .int (nI (v))] (Gc L xs A B U V S d X) (.inl (none), Gc L xs A B U V S (py d i f v) X) := by
  refine eE.of ?_
  refine eR.step 4 (F' := (5, [(0, .ref 8), (1, .int (nI (i))), (2, .int (nI (f))), (3, .int (nI (v)))], [.int (nI 32), .int (nI (f)), .int (nI (i)), .ref 8])) (h' := (Gc L xs A B U V S d X)) (fun _ _ => rfl) ?_
  refine eR.ndiv rfl (by omega) (by decide) (by decide) ?_
  refine eR.call (k' := 48) (as := [.ref 8, .int (nI (i)), .int (nI (f / 32))]) (rest := []) (v := some (.int (nI (bo d i (f / 32))))) (h1 := (Gc L xs A B U V S d X)) rfl rfl rfl rfl (eg (Nat.le_of_ble_eq_true rfl) (show 22 ≤ lo by omega) (Nat.le_of_ble_eq_true rfl)) (c_blockOf (show 44 ≤ lo - 22 by omega) hd hi (by omega)) ?_
  refine eR.step 2 (F' := (13, [(0, .ref 8), (1, .int (nI (i))), (2, .int (nI (f))), (3, .int (nI (v))), (4, .int (nI (bo d i (f / 32))))], [.int (nI (bo d i (f / 32)))])) (h' := (Gc L xs A B U V S d X)) (fun _ _ => rfl) ?_
  have hb := bo_lt hd i (f / 32)
  unfold py
  by_cases h0 : bo d i (f / 32) = 0
  · rw [if_pos h0]
    refine eR.ifc rfl true ((nc_eq (b := 0) (by omega) (by decide)).trans (decide_eq_true (by omega))) ?_
    exact eR.ret rfl rfl rfl
  · rw [if_neg h0]
    refine eR.ifc rfl false ((nc_eq (b := 0) (by omega) (by decide)).trans (decide_eq_false (by omega))) ?_
    refine eR.step 4 (F' := (24, [(0, .ref 8), (1, .int (nI (i))), (2, .int (nI (f))), (3, .int (nI (v))), (4, .int (nI (bo d i (f / 32))))], [.int (nI 32), .int (nI (bo d i (f / 32))), .ref 4])) (h' := (Gc L xs A B U V S d X)) (fun _ _ => rfl) ?_
    refine eR.nmul rfl ?_
    refine eR.step 2 (F' := (28, [(0, .ref 8), (1, .int (nI (i))), (2, .int (nI (f))), (3, .int (nI (v))), (4, .int (nI (bo d i (f / 32))))], [.int (nI 32), .int (nI (f)), .int (nI ((bo d i (f / 32)) * 32)), .ref 4])) (h' := (Gc L xs A B U V S d X)) (fun _ _ => rfl) ?_
    refine eR.nrem rfl (by omega) (by decide) (by decide) ?_
    refine eR.nadd rfl ?_
    refine eR.step 1 (F' := (31, [(0, .ref 8), (1, .int (nI (i))), (2, .int (nI (f))), (3, .int (nI (v))), (4, .int (nI (bo d i (f / 32))))], [.int (nI (v)), .int (nI (((bo d i (f / 32)) * 32) + (f % 32))), .ref 4])) (h' := (Gc L xs A B U V S d X)) (fun _ _ => rfl) ?_
    refine eR.call (k' := 10) (as := [.ref 4, .int (nI (((bo d i (f / 32)) * 32) + (f % 32))), .int (nI (v))]) (rest := []) (v := none) (h1 := (Gc L xs A B U V S (dp d (((bo d i (f / 32)) * 32) + (f % 32)) v) X)) rfl rfl rfl rfl (eg (Nat.le_of_ble_eq_true rfl) (show 22 ≤ lo by omega) (Nat.le_of_ble_eq_true rfl)) (c_put (by omega)) ?_
    exact eR.ret rfl rfl rfl
theorem c_spaceLeft {cm sm fr lo L : Nat} {xs : Nat → Int32} {A B : gT} {U V : gU} {S : gS} {d : Nat → Nat} {X : mj_H} (hlo : 45 ≤ lo) (hd : dk d) : eE mm_P cm sm (fr + 3) lo 79 [.ref 8] (Gc L xs A B U V S d X) (.inl (some (.int (nI (cf d 3 9 55)))), Gc L xs A B U V S d X) := by
  refine eE.of ?_
  refine eR.step 2 (F' := (4, [(0, .ref 8)], [.ref 7])) (h' := (Gc L xs A B U V S d X)) (fun _ _ => rfl) ?_
  refine eR.call (k' := 62) (as := [.ref 7]) (rest := []) (v := some (.int (nI (cf d 3 9 55)))) (h1 := (Gc L xs A B U V S d X)) rfl rfl rfl rfl (eg (Nat.le_of_ble_eq_true rfl) (show 22 ≤ lo by omega) (Nat.le_of_ble_eq_true rfl)) (c_left_7 (show 23 ≤ lo - 22 by omega) hd) ?_
  exact eR.ret rfl rfl rfl

