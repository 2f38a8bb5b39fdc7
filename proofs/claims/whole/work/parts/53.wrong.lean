/-- the disk after n bits from i on were held against marks (and mended) -/
def wB (a : Nat) (f : Nat → Bool) (r : Bool) : (Nat → Nat) → Nat → Nat → (Nat → Nat)
  | d, _, 0 => d
  | d, i, n + 1 => wB a f r (if bt d a i = f i then d else if r = true then tb d a i else d) (i + 1) n
def wC (a : Nat) (f : Nat → Bool) (r : Bool) : (Nat → Nat) → Nat → Nat → Nat → Nat
  | _, c, _, 0 => c
  | d, c, i, n + 1 => wC a f r (if bt d a i = f i then d else if r = true then tb d a i else d) (if bt d a i = f i then c else c + 1) (i + 1) n
/-- the links of n inodes from i on held against those found -/
def wL (S : gS) (r : Bool) : (Nat → Nat) → Nat → Nat → (Nat → Nat)
  | d, _, 0 => d
  | d, i, n + 1 => wL S r (if S.1 i = true ∧ d (32 + (16 * i) + 1) ≠ S.2.2.1 i ∧ r = true then dp d (32 + (16 * i) + 1) (S.2.2.1 i) else d) (i + 1) n
def wM (S : gS) (r : Bool) : (Nat → Nat) → Nat → Nat → Nat → Nat
  | _, c, _, 0 => c
  | d, c, i, n + 1 => wM S r (if S.1 i = true ∧ d (32 + (16 * i) + 1) ≠ S.2.2.1 i ∧ r = true then dp d (32 + (16 * i) + 1) (S.2.2.1 i) else d) (if S.1 i = true ∧ d (32 + (16 * i) + 1) ≠ S.2.2.1 i then c + 1 else c) (i + 1) n
theorem wB_dk (a : Nat) (f : Nat → Bool) (r : Bool) : ∀ (n i : Nat) (d : Nat → Nat), dk d → dk (wB a f r d i n)
  | 0, _, _, h => h
  | n + 1, i, d, h => by
    unfold wB
    refine wB_dk a f r n (i + 1) _ ?_
    split
    · exact h
    · split
      · exact dp_dk h _ _
      · exact h
theorem wL_dk (S : gS) (r : Bool) : ∀ (n i : Nat) (d : Nat → Nat), dk d → dk (wL S r d i n)
  | 0, _, _, h => h
  | n + 1, i, d, h => by
    unfold wL
    refine wL_dk S r n (i + 1) _ ?_
    split
    · exact dp_dk h _ _
    · exact h
theorem bi_le (b : Bool) : bi b < 2 := by cases b <;> decide
theorem bi_ne {a b : Bool} : bi a = bi b ↔ a = b := by cases a <;> cases b <;> decide
theorem l_wrongBits_6 {cm sm fr lo L : Nat} {xs : Nat → Int32} {A B : gT} {U V : gU} {S : gS} {X : mj_H} (hlo : 44 ≤ lo) {r : Bool} : ∀ (n i c : Nat) (d : Nat → Nat), dk d → c ≤ i → i + n = 16 → eR mm_P cm sm (fr + 2) lo 54 (8, [(0, .ref 6), (1, .ref 11), (2, .int (nI (bi r))), (3, .int (nI (c))), (4, .int (nI (i)))], []) (Gc L xs A B U V S d X) (.inl (some (.int (nI (wC 1 S.1 r d c i n)))), (Gc L xs A B U V S (wB 1 S.1 r d i n) X))
  | 0, i, c, d, hd, hc, hq => by
    refine eR.step 2 (F' := (11, [(0, .ref 6), (1, .ref 11), (2, .int (nI (bi r))), (3, .int (nI (c))), (4, .int (nI (i)))], [.ref 6, .int (nI (i))])) (h' := (Gc L xs A B U V S d X)) (fun _ _ => rfl) ?_
    refine eR.call (k' := 56) (as := [.ref 6]) (rest := [.int (nI (i))]) (v := some (.int (nI 16))) (h1 := (Gc L xs A B U V S d X)) rfl rfl rfl rfl (eg (Nat.le_of_ble_eq_true rfl) (show 20 ≤ lo by omega) (Nat.le_of_ble_eq_true rfl)) (c_size_6) ?_
    refine eR.icmp rfl true ((nc_ge (by omega) (by decide)).trans (decide_eq_true (by omega))) ?_
    refine eR.step 1 (F' := (57, [(0, .ref 6), (1, .ref 11), (2, .int (nI (bi r))), (3, .int (nI (c))), (4, .int (nI (i)))], [.int (nI (c))])) (h' := (Gc L xs A B U V S d X)) (fun _ _ => rfl) ?_
    exact eR.ret rfl rfl rfl
  | n + 1, i, c, d, hd, hc, hq => by
    unfold wC wB
    refine eR.step 2 (F' := (11, [(0, .ref 6), (1, .ref 11), (2, .int (nI (bi r))), (3, .int (nI (c))), (4, .int (nI (i)))], [.ref 6, .int (nI (i))])) (h' := (Gc L xs A B U V S d X)) (fun _ _ => rfl) ?_
    refine eR.call (k' := 56) (as := [.ref 6]) (rest := [.int (nI (i))]) (v := some (.int (nI 16))) (h1 := (Gc L xs A B U V S d X)) rfl rfl rfl rfl (eg (Nat.le_of_ble_eq_true rfl) (show 20 ≤ lo by omega) (Nat.le_of_ble_eq_true rfl)) (c_size_6) ?_
    refine eR.icmp rfl false ((nc_ge (by omega) (by decide)).trans (decide_eq_false (by omega))) ?_
    refine eR.step 3 (F' := (21, [(0, .ref 6), (1, .ref 11), (2, .int (nI (bi r))), (3, .int (nI (c))), (4, .int (nI (i)))], [.int (nI 16), .int (nI (i))])) (h' := (Gc L xs A B U V S d X)) (fun _ _ => rfl) ?_
    refine eR.icmp rfl false ((nc_ge (by omega) (by decide)).trans (decide_eq_false (by omega))) ?_
    refine eR.step 2 (F' := (27, [(0, .ref 6), (1, .ref 11), (2, .int (nI (bi r))), (3, .int (nI (c))), (4, .int (nI (i)))], [.int (nI (i)), .ref 6])) (h' := (Gc L xs A B U V S d X)) (fun _ _ => rfl) ?_
    refine eR.call (k' := 57) (as := [.ref 6, .int (nI (i))]) (rest := []) (v := some (.int (nI (bi (bt d 1 i))))) (h1 := (Gc L xs A B U V S d X)) rfl rfl rfl rfl (eg (Nat.le_of_ble_eq_true rfl) (show 21 ≤ lo by omega) (Nat.le_of_ble_eq_true rfl)) (c_isTaken_6 (show 23 ≤ lo - 21 by omega) hd (by omega)) ?_
    refine eR.step 2 (F' := (33, [(0, .ref 6), (1, .ref 11), (2, .int (nI (bi r))), (3, .int (nI (c))), (4, .int (nI (i)))], [.int (nI (i)), .ref 11, .int (nI (bi (bt d 1 i)))])) (h' := (Gc L xs A B U V S d X)) (fun _ _ => rfl) ?_
    refine eR.sim rfl (F := (34, [(0, .ref 6), (1, .ref 11), (2, .int (nI (bi r))), (3, .int (nI (c))), (4, .int (nI (i)))], [.int (nI (bi (S.1 i))), .int (nI (bi (bt d 1 i)))])) (h' := (Gc L xs A B U V S d X)) (by simp [mj_sim, mj_ar, mj_gi, Gc, na_ix (show i < 16 by omega) (by decide)]) ?_
    have h6 := bi_le (bt d 1 i)
    have h7 := bi_le (S.1 i)
    by_cases h0 : bt d 1 i = S.1 i
    · rw [if_pos h0, if_pos h0]
      refine eR.icmp rfl true ((nc_eq (by omega) (by omega)).trans (decide_eq_true (bi_ne.mpr h0))) ?_
      refine eR.step 1 (F' := (53, [(0, .ref 6), (1, .ref 11), (2, .int (nI (bi r))), (3, .int (nI (c))), (4, .int (nI (i) + 1))], [])) (h' := (Gc L xs A B U V S d X)) (fun _ _ => rfl) ?_
      rw [show nI (i) + 1 = nI (i + 1) from nI_add (i) 1]
      refine eR.step 1 (F' := (8, [(0, .ref 6), (1, .ref 11), (2, .int (nI (bi r))), (3, .int (nI (c))), (4, .int (nI (i + 1)))], [])) (h' := (Gc L xs A B U V S d X)) (fun _ _ => rfl) ?_
      exact l_wrongBits_6 hlo n (i + 1) c d hd (by omega) (by omega)
    · rw [if_neg h0, if_neg h0]
      refine eR.icmp rfl false ((nc_eq (by omega) (by omega)).trans (decide_eq_false (fun z => h0 (bi_ne.mp z)))) ?_
      refine eR.step 1 (F' := (40, [(0, .ref 6), (1, .ref 11), (2, .int (nI (bi r))), (3, .int (nI (c) + 1)), (4, .int (nI (i)))], [])) (h' := (Gc L xs A B U V S d X)) (fun _ _ => rfl) ?_
      rw [show nI (c) + 1 = nI (c + 1) from nI_add (c) 1]
      refine eR.step 1 (F' := (41, [(0, .ref 6), (1, .ref 11), (2, .int (nI (bi r))), (3, .int (nI (c + 1))), (4, .int (nI (i)))], [.int (nI (bi r))])) (h' := (Gc L xs A B U V S d X)) (fun _ _ => rfl) ?_
      cases r
      · rw [if_neg (fun z => Bool.noConfusion z)]
        refine eR.ifc rfl true rfl ?_
        refine eR.step 1 (F' := (53, [(0, .ref 6), (1, .ref 11), (2, .int (nI (bi false))), (3, .int (nI (c + 1))), (4, .int (nI (i) + 1))], [])) (h' := (Gc L xs A B U V S d X)) (fun _ _ => rfl) ?_
        rw [show nI (i) + 1 = nI (i + 1) from nI_add (i) 1]
        refine eR.step 1 (F' := (8, [(0, .ref 6), (1, .ref 11), (2, .int (nI (bi false))), (3, .int (nI (c + 1))), (4, .int (nI (i + 1)))], [])) (h' := (Gc L xs A B U V S d X)) (fun _ _ => rfl) ?_
        exact l_wrongBits_6 hlo n (i + 1) (c + 1) d hd (by omega) (by omega)
      · rw [if_pos rfl]
        refine eR.ifc rfl false rfl ?_
        refine eR.step 2 (F' := (47, [(0, .ref 6), (1, .ref 11), (2, .int (nI (bi true))), (3, .int (nI (c + 1))), (4, .int (nI (i)))], [.int (nI (i)), .ref 6])) (h' := (Gc L xs A B U V S d X)) (fun _ _ => rfl) ?_
        refine eR.call (k' := 39) (as := [.ref 6, .int (nI (i))]) (rest := []) (v := none) (h1 := (Gc L xs A B U V S (tb d 1 i) X)) rfl rfl rfl rfl (eg (Nat.le_of_ble_eq_true rfl) (show 21 ≤ lo by omega) (Nat.le_of_ble_eq_true rfl)) (c_turn_6 (show 23 ≤ lo - 21 by omega) hd (by omega)) ?_
        refine eR.step 1 (F' := (53, [(0, .ref 6), (1, .ref 11), (2, .int (nI (bi true))), (3, .int (nI (c + 1))), (4, .int (nI (i) + 1))], [])) (h' := (Gc L xs A B U V S (tb d 1 i) X)) (fun _ _ => rfl) ?_
        rw [show nI (i) + 1 = nI (i + 1) from nI_add (i) 1]
        refine eR.step 1 (F' := (8, [(0, .ref 6), (1, .ref 11), (2, .int (nI (bi true))), (3, .int (nI (c + 1))), (4, .int (nI (i + 1)))], [])) (h' := (Gc L xs A B U V S (tb d 1 i) X)) (fun _ _ => rfl) ?_
        exact l_wrongBits_6 hlo n (i + 1) (c + 1) _ (dp_dk hd _ _) (by omega) (by omega)
theorem c_wrongBits_6 {cm sm fr lo L : Nat} {xs : Nat → Int32} {A B : gT} {U V : gU} {S : gS} {d : Nat → Nat} {X : mj_H} (hlo : 44 ≤ lo) (hd : dk d) {r : Bool} : eE mm_P cm sm (fr + 3) lo 54 [.ref 6, .ref 11, .int (nI (bi r))] (Gc L xs A B U V S d X) (.inl (some (.int (nI (wC 1 S.1 r d 0 1 15)))), (Gc L xs A B U V S (wB 1 S.1 r d 1 15) X)) := by
  refine eE.of ?_
  refine eR.step 3 (F' := (3, [(0, .ref 6), (1, .ref 11), (2, .int (nI (bi r))), (3, .int (nI 0))], [.ref 6])) (h' := (Gc L xs A B U V S d X)) (fun _ _ => rfl) ?_
  refine eR.call (k' := 55) (as := [.ref 6]) (rest := []) (v := some (.int (nI 1))) (h1 := (Gc L xs A B U V S d X)) rfl rfl rfl rfl (eg (Nat.le_of_ble_eq_true rfl) (show 20 ≤ lo by omega) (Nat.le_of_ble_eq_true rfl)) (c_first_6) ?_
  refine eR.step 1 (F' := (8, [(0, .ref 6), (1, .ref 11), (2, .int (nI (bi r))), (3, .int (nI 0)), (4, .int (nI 1))], [])) (h' := (Gc L xs A B U V S d X)) (fun _ _ => rfl) ?_
  exact l_wrongBits_6 hlo 15 1 0 d hd (by decide) (by decide)
theorem c_wrong_6 {cm sm fr lo L : Nat} {xs : Nat → Int32} {A B : gT} {U V : gU} {S : gS} {d : Nat → Nat} {X : mj_H} (hlo : 68 ≤ lo) (hd : dk d) {r : Bool} : eE mm_P cm sm (fr + 4) lo 53 [.ref 10, .ref 6, .int (nI (bi r))] (Gc L xs A B U V S d X) (.inl (some (.int (nI (wC 1 S.1 r d 0 1 15)))), (Gc L xs A B U V S (wB 1 S.1 r d 1 15) X)) := by
  refine eE.of ?_
  refine eR.step 4 (F' := (6, [(0, .ref 10), (1, .ref 6), (2, .int (nI (bi r)))], [.int (nI (bi r)), .ref 11, .ref 6])) (h' := (Gc L xs A B U V S d X)) (fun _ _ => rfl) ?_
  refine eR.call (k' := 54) (as := [.ref 6, .ref 11, .int (nI (bi r))]) (rest := []) (v := some (.int (nI (wC 1 S.1 r d 0 1 15)))) (h1 := (Gc L xs A B U V S (wB 1 S.1 r d 1 15) X)) rfl rfl rfl rfl (eg (Nat.le_of_ble_eq_true rfl) (show 24 ≤ lo by omega) (Nat.le_of_ble_eq_true rfl)) (c_wrongBits_6 (show 44 ≤ lo - 24 by omega) hd) ?_
  exact eR.ret rfl rfl rfl
theorem l_wrongBits_7 {cm sm fr lo L : Nat} {xs : Nat → Int32} {A B : gT} {U V : gU} {S : gS} {X : mj_H} (hlo : 44 ≤ lo) {r : Bool} : ∀ (n i c : Nat) (d : Nat → Nat), dk d → c ≤ i → i + n = 64 → eR mm_P cm sm (fr + 2) lo 54 (8, [(0, .ref 7), (1, .ref 12), (2, .int (nI (bi r))), (3, .int (nI (c))), (4, .int (nI (i)))], []) (Gc L xs A B U V S d X) (.inl (some (.int (nI (wC 3 S.2.1 r d c i n)))), (Gc L xs A B U V S (wB 3 S.2.1 r d i n) X))
  | 0, i, c, d, hd, hc, hq => by
    refine eR.step 2 (F' := (11, [(0, .ref 7), (1, .ref 12), (2, .int (nI (bi r))), (3, .int (nI (c))), (4, .int (nI (i)))], [.ref 7, .int (nI (i))])) (h' := (Gc L xs A B U V S d X)) (fun _ _ => rfl) ?_
    refine eR.call (k' := 56) (as := [.ref 7]) (rest := [.int (nI (i))]) (v := some (.int (nI 64))) (h1 := (Gc L xs A B U V S d X)) rfl rfl rfl rfl (eg (Nat.le_of_ble_eq_true rfl) (show 20 ≤ lo by omega) (Nat.le_of_ble_eq_true rfl)) (c_size_7) ?_
    refine eR.icmp rfl true ((nc_ge (by omega) (by decide)).trans (decide_eq_true (by omega))) ?_
    refine eR.step 1 (F' := (57, [(0, .ref 7), (1, .ref 12), (2, .int (nI (bi r))), (3, .int (nI (c))), (4, .int (nI (i)))], [.int (nI (c))])) (h' := (Gc L xs A B U V S d X)) (fun _ _ => rfl) ?_
    exact eR.ret rfl rfl rfl
  | n + 1, i, c, d, hd, hc, hq => by
    unfold wC wB
    refine eR.step 2 (F' := (11, [(0, .ref 7), (1, .ref 12), (2, .int (nI (bi r))), (3, .int (nI (c))), (4, .int (nI (i)))], [.ref 7, .int (nI (i))])) (h' := (Gc L xs A B U V S d X)) (fun _ _ => rfl) ?_
    refine eR.call (k' := 56) (as := [.ref 7]) (rest := [.int (nI (i))]) (v := some (.int (nI 64))) (h1 := (Gc L xs A B U V S d X)) rfl rfl rfl rfl (eg (Nat.le_of_ble_eq_true rfl) (show 20 ≤ lo by omega) (Nat.le_of_ble_eq_true rfl)) (c_size_7) ?_
    refine eR.icmp rfl false ((nc_ge (by omega) (by decide)).trans (decide_eq_false (by omega))) ?_
    refine eR.step 3 (F' := (21, [(0, .ref 7), (1, .ref 12), (2, .int (nI (bi r))), (3, .int (nI (c))), (4, .int (nI (i)))], [.int (nI 64), .int (nI (i))])) (h' := (Gc L xs A B U V S d X)) (fun _ _ => rfl) ?_
    refine eR.icmp rfl false ((nc_ge (by omega) (by decide)).trans (decide_eq_false (by omega))) ?_
    refine eR.step 2 (F' := (27, [(0, .ref 7), (1, .ref 12), (2, .int (nI (bi r))), (3, .int (nI (c))), (4, .int (nI (i)))], [.int (nI (i)), .ref 7])) (h' := (Gc L xs A B U V S d X)) (fun _ _ => rfl) ?_
    refine eR.call (k' := 57) (as := [.ref 7, .int (nI (i))]) (rest := []) (v := some (.int (nI (bi (bt d 3 i))))) (h1 := (Gc L xs A B U V S d X)) rfl rfl rfl rfl (eg (Nat.le_of_ble_eq_true rfl) (show 21 ≤ lo by omega) (Nat.le_of_ble_eq_true rfl)) (c_isTaken_7 (show 23 ≤ lo - 21 by omega) hd (by omega)) ?_
    refine eR.step 2 (F' := (33, [(0, .ref 7), (1, .ref 12), (2, .int (nI (bi r))), (3, .int (nI (c))), (4, .int (nI (i)))], [.int (nI (i)), .ref 12, .int (nI (bi (bt d 3 i)))])) (h' := (Gc L xs A B U V S d X)) (fun _ _ => rfl) ?_
    refine eR.sim rfl (F := (34, [(0, .ref 7), (1, .ref 12), (2, .int (nI (bi r))), (3, .int (nI (c))), (4, .int (nI (i)))], [.int (nI (bi (S.2.1 i))), .int (nI (bi (bt d 3 i)))])) (h' := (Gc L xs A B U V S d X)) (by simp [mj_sim, mj_ar, mj_gi, Gc, na_ix (show i < 64 by omega) (by decide)]) ?_
    have h6 := bi_le (bt d 3 i)
    have h7 := bi_le (S.2.1 i)
    by_cases h0 : bt d 3 i = S.2.1 i
    · rw [if_pos h0, if_pos h0]
      refine eR.icmp rfl true ((nc_eq (by omega) (by omega)).trans (decide_eq_true (bi_ne.mpr h0))) ?_
      refine eR.step 1 (F' := (53, [(0, .ref 7), (1, .ref 12), (2, .int (nI (bi r))), (3, .int (nI (c))), (4, .int (nI (i) + 1))], [])) (h' := (Gc L xs A B U V S d X)) (fun _ _ => rfl) ?_
      rw [show nI (i) + 1 = nI (i + 1) from nI_add (i) 1]
      refine eR.step 1 (F' := (8, [(0, .ref 7), (1, .ref 12), (2, .int (nI (bi r))), (3, .int (nI (c))), (4, .int (nI (i + 1)))], [])) (h' := (Gc L xs A B U V S d X)) (fun _ _ => rfl) ?_
      exact l_wrongBits_7 hlo n (i + 1) c d hd (by omega) (by omega)
    · rw [if_neg h0, if_neg h0]
      refine eR.icmp rfl false ((nc_eq (by omega) (by omega)).trans (decide_eq_false (fun z => h0 (bi_ne.mp z)))) ?_
      refine eR.step 1 (F' := (40, [(0, .ref 7), (1, .ref 12), (2, .int (nI (bi r))), (3, .int (nI (c) + 1)), (4, .int (nI (i)))], [])) (h' := (Gc L xs A B U V S d X)) (fun _ _ => rfl) ?_
      rw [show nI (c) + 1 = nI (c + 1) from nI_add (c) 1]
      refine eR.step 1 (F' := (41, [(0, .ref 7), (1, .ref 12), (2, .int (nI (bi r))), (3, .int (nI (c + 1))), (4, .int (nI (i)))], [.int (nI (bi r))])) (h' := (Gc L xs A B U V S d X)) (fun _ _ => rfl) ?_
      cases r
      · rw [if_neg (fun z => Bool.noConfusion z)]
        refine eR.ifc rfl true rfl ?_
        refine eR.step 1 (F' := (53, [(0, .ref 7), (1, .ref 12), (2, .int (nI (bi false))), (3, .int (nI (c + 1))), (4, .int (nI (i) + 1))], [])) (h' := (Gc L xs A B U V S d X)) (fun _ _ => rfl) ?_
        rw [show nI (i) + 1 = nI (i + 1) from nI_add (i) 1]
        refine eR.step 1 (F' := (8, [(0, .ref 7), (1, .ref 12), (2, .int (nI (bi false))), (3, .int (nI (c + 1))), (4, .int (nI (i + 1)))], [])) (h' := (Gc L xs A B U V S d X)) (fun _ _ => rfl) ?_
        exact l_wrongBits_7 hlo n (i + 1) (c + 1) d hd (by omega) (by omega)
      · rw [if_pos rfl]
        refine eR.ifc rfl false rfl ?_
        refine eR.step 2 (F' := (47, [(0, .ref 7), (1, .ref 12), (2, .int (nI (bi true))), (3, .int (nI (c + 1))), (4, .int (nI (i)))], [.int (nI (i)), .ref 7])) (h' := (Gc L xs A B U V S d X)) (fun _ _ => rfl) ?_
        refine eR.call (k' := 39) (as := [.ref 7, .int (nI (i))]) (rest := []) (v := none) (h1 := (Gc L xs A B U V S (tb d 3 i) X)) rfl rfl rfl rfl (eg (Nat.le_of_ble_eq_true rfl) (show 21 ≤ lo by omega) (Nat.le_of_ble_eq_true rfl)) (c_turn_7 (show 23 ≤ lo - 21 by omega) hd (by omega)) ?_
        refine eR.step 1 (F' := (53, [(0, .ref 7), (1, .ref 12), (2, .int (nI (bi true))), (3, .int (nI (c + 1))), (4, .int (nI (i) + 1))], [])) (h' := (Gc L xs A B U V S (tb d 3 i) X)) (fun _ _ => rfl) ?_
        rw [show nI (i) + 1 = nI (i + 1) from nI_add (i) 1]
        refine eR.step 1 (F' := (8, [(0, .ref 7), (1, .ref 12), (2, .int (nI (bi true))), (3, .int (nI (c + 1))), (4, .int (nI (i + 1)))], [])) (h' := (Gc L xs A B U V S (tb d 3 i) X)) (fun _ _ => rfl) ?_
        exact l_wrongBits_7 hlo n (i + 1) (c + 1) _ (dp_dk hd _ _) (by omega) (by omega)
theorem c_wrongBits_7 {cm sm fr lo L : Nat} {xs : Nat → Int32} {A B : gT} {U V : gU} {S : gS} {d : Nat → Nat} {X : mj_H} (hlo : 44 ≤ lo) (hd : dk d) {r : Bool} : eE mm_P cm sm (fr + 3) lo 54 [.ref 7, .ref 12, .int (nI (bi r))] (Gc L xs A B U V S d X) (.inl (some (.int (nI (wC 3 S.2.1 r d 0 9 55)))), (Gc L xs A B U V S (wB 3 S.2.1 r d 9 55) X)) := by
  refine eE.of ?_
  refine eR.step 3 (F' := (3, [(0, .ref 7), (1, .ref 12), (2, .int (nI (bi r))), (3, .int (nI 0))], [.ref 7])) (h' := (Gc L xs A B U V S d X)) (fun _ _ => rfl) ?_
  refine eR.call (k' := 55) (as := [.ref 7]) (rest := []) (v := some (.int (nI 9))) (h1 := (Gc L xs A B U V S d X)) rfl rfl rfl rfl (eg (Nat.le_of_ble_eq_true rfl) (show 20 ≤ lo by omega) (Nat.le_of_ble_eq_true rfl)) (c_first_7) ?_
  refine eR.step 1 (F' := (8, [(0, .ref 7), (1, .ref 12), (2, .int (nI (bi r))), (3, .int (nI 0)), (4, .int (nI 9))], [])) (h' := (Gc L xs A B U V S d X)) (fun _ _ => rfl) ?_
  exact l_wrongBits_7 hlo 55 9 0 d hd (by decide) (by decide)
theorem c_wrong_7 {cm sm fr lo L : Nat} {xs : Nat → Int32} {A B : gT} {U V : gU} {S : gS} {d : Nat → Nat} {X : mj_H} (hlo : 68 ≤ lo) (hd : dk d) {r : Bool} : eE mm_P cm sm (fr + 4) lo 58 [.ref 10, .ref 7, .int (nI (bi r))] (Gc L xs A B U V S d X) (.inl (some (.int (nI (wC 3 S.2.1 r d 0 9 55)))), (Gc L xs A B U V S (wB 3 S.2.1 r d 9 55) X)) := by
  refine eE.of ?_
  refine eR.step 4 (F' := (6, [(0, .ref 10), (1, .ref 7), (2, .int (nI (bi r)))], [.int (nI (bi r)), .ref 12, .ref 7])) (h' := (Gc L xs A B U V S d X)) (fun _ _ => rfl) ?_
  refine eR.call (k' := 54) (as := [.ref 7, .ref 12, .int (nI (bi r))]) (rest := []) (v := some (.int (nI (wC 3 S.2.1 r d 0 9 55)))) (h1 := (Gc L xs A B U V S (wB 3 S.2.1 r d 9 55) X)) rfl rfl rfl rfl (eg (Nat.le_of_ble_eq_true rfl) (show 24 ≤ lo by omega) (Nat.le_of_ble_eq_true rfl)) (c_wrongBits_7 (show 44 ≤ lo - 24 by omega) hd) ?_
  exact eR.ret rfl rfl rfl
theorem l_wrongLinks {cm sm fr lo L : Nat} {xs : Nat → Int32} {A B : gT} {U V : gU} {S : gS} {X : mj_H} (hlo : 44 ≤ lo) (hv : ∀ k, k < 16 → S.2.2.1 k < 2 ^ 20) {r : Bool} : ∀ (n i c : Nat) (d : Nat → Nat), dk d → c ≤ i → i + n = 16 → eR mm_P cm sm (fr + 2) lo 59 (4, [(0, .ref 10), (1, .int (nI (bi r))), (2, .int (nI (c))), (3, .int (nI (i)))], []) (Gc L xs A B U V S d X) (.inl (some (.int (nI (wM S r d c i n)))), (Gc L xs A B U V S (wL S r d i n) X))
  | 0, i, c, d, hd, hc, hq => by
    refine eR.step 2 (F' := (7, [(0, .ref 10), (1, .int (nI (bi r))), (2, .int (nI (c))), (3, .int (nI (i)))], [.int (nI 16), .int (nI (i))])) (h' := (Gc L xs A B U V S d X)) (fun _ _ => rfl) ?_
    refine eR.icmp rfl true ((nc_ge (by omega) (by decide)).trans (decide_eq_true (by omega))) ?_
    refine eR.step 1 (F' := (64, [(0, .ref 10), (1, .int (nI (bi r))), (2, .int (nI (c))), (3, .int (nI (i)))], [.int (nI (c))])) (h' := (Gc L xs A B U V S d X)) (fun _ _ => rfl) ?_
    exact eR.ret rfl rfl rfl
  | n + 1, i, c, d, hd, hc, hq => by
    unfold wM wL
    refine eR.step 2 (F' := (7, [(0, .ref 10), (1, .int (nI (bi r))), (2, .int (nI (c))), (3, .int (nI (i)))], [.int (nI 16), .int (nI (i))])) (h' := (Gc L xs A B U V S d X)) (fun _ _ => rfl) ?_
    refine eR.icmp rfl false ((nc_ge (by omega) (by decide)).trans (decide_eq_false (by omega))) ?_
    refine eR.step 3 (F' := (15, [(0, .ref 10), (1, .int (nI (bi r))), (2, .int (nI (c))), (3, .int (nI (i)))], [.int (nI (i)), .ref 11])) (h' := (Gc L xs A B U V S d X)) (fun _ _ => rfl) ?_
    refine eR.sim rfl (F := (16, [(0, .ref 10), (1, .int (nI (bi r))), (2, .int (nI (c))), (3, .int (nI (i)))], [.int (nI (bi (S.1 i)))])) (h' := (Gc L xs A B U V S d X)) (by simp [mj_sim, mj_ar, mj_gi, Gc, na_ix (show i < 16 by omega) (by decide)]) ?_
    by_cases h0 : S.1 i = true
    · rw [bj_t h0]
      refine eR.ifc rfl false rfl ?_
      refine eR.step 3 (F' := (24, [(0, .ref 10), (1, .int (nI (bi r))), (2, .int (nI (c))), (3, .int (nI (i)))], [.int (nI (i)), .ref 8])) (h' := (Gc L xs A B U V S d X)) (fun _ _ => rfl) ?_
      refine eR.call (k' := 27) (as := [.ref 8, .int (nI (i))]) (rest := []) (v := some (.int (nI (d (32 + (16 * i) + 1))))) (h1 := (Gc L xs A B U V S d X)) rfl rfl rfl rfl (eg (Nat.le_of_ble_eq_true rfl) (show 21 ≤ lo by omega) (Nat.le_of_ble_eq_true rfl)) (c_links (show 21 ≤ lo - 21 by omega) hd (by omega)) ?_
      refine eR.step 3 (F' := (32, [(0, .ref 10), (1, .int (nI (bi r))), (2, .int (nI (c))), (3, .int (nI (i)))], [.int (nI (i)), .ref 13, .int (nI (d (32 + (16 * i) + 1)))])) (h' := (Gc L xs A B U V S d X)) (fun _ _ => rfl) ?_
      refine eR.sim rfl (F := (33, [(0, .ref 10), (1, .int (nI (bi r))), (2, .int (nI (c))), (3, .int (nI (i)))], [.int (nI (S.2.2.1 i)), .int (nI (d (32 + (16 * i) + 1)))])) (h' := (Gc L xs A B U V S d X)) (by simp [mj_sim, mj_ar, mj_gi, Gc, na_ix (show i < 16 by omega) (by decide)]) ?_
      have h6 := hd.1 (32 + (16 * i) + 1)
      have h7 := hv i (by omega)
      by_cases h1 : d (32 + (16 * i) + 1) = S.2.2.1 i
      · rw [if_neg (fun z => z.2.1 h1), if_neg (fun z => z.2 h1)]
        refine eR.icmp rfl true ((nc_eq (by omega) (by omega)).trans (decide_eq_true (h1))) ?_
        refine eR.step 1 (F' := (60, [(0, .ref 10), (1, .int (nI (bi r))), (2, .int (nI (c))), (3, .int (nI (i) + 1))], [])) (h' := (Gc L xs A B U V S d X)) (fun _ _ => rfl) ?_
        rw [show nI (i) + 1 = nI (i + 1) from nI_add (i) 1]
        refine eR.step 1 (F' := (4, [(0, .ref 10), (1, .int (nI (bi r))), (2, .int (nI (c))), (3, .int (nI (i + 1)))], [])) (h' := (Gc L xs A B U V S d X)) (fun _ _ => rfl) ?_
        exact l_wrongLinks hlo hv n (i + 1) c d hd (by omega) (by omega)
      · rw [if_pos (c := S.1 i = true ∧ d (32 + (16 * i) + 1) ≠ S.2.2.1 i) ⟨h0, h1⟩]
        refine eR.icmp rfl false ((nc_eq (by omega) (by omega)).trans (decide_eq_false (h1))) ?_
        refine eR.step 1 (F' := (39, [(0, .ref 10), (1, .int (nI (bi r))), (2, .int (nI (c) + 1)), (3, .int (nI (i)))], [])) (h' := (Gc L xs A B U V S d X)) (fun _ _ => rfl) ?_
        rw [show nI (c) + 1 = nI (c + 1) from nI_add (c) 1]
        refine eR.step 1 (F' := (40, [(0, .ref 10), (1, .int (nI (bi r))), (2, .int (nI (c + 1))), (3, .int (nI (i)))], [.int (nI (bi r))])) (h' := (Gc L xs A B U V S d X)) (fun _ _ => rfl) ?_
        cases r
        · rw [if_neg (fun z => Bool.noConfusion z.2.2)]
          refine eR.ifc rfl true rfl ?_
          refine eR.step 1 (F' := (60, [(0, .ref 10), (1, .int (nI (bi false))), (2, .int (nI (c + 1))), (3, .int (nI (i) + 1))], [])) (h' := (Gc L xs A B U V S d X)) (fun _ _ => rfl) ?_
          rw [show nI (i) + 1 = nI (i + 1) from nI_add (i) 1]
          refine eR.step 1 (F' := (4, [(0, .ref 10), (1, .int (nI (bi false))), (2, .int (nI (c + 1))), (3, .int (nI (i + 1)))], [])) (h' := (Gc L xs A B U V S d X)) (fun _ _ => rfl) ?_
          exact l_wrongLinks hlo hv n (i + 1) (c + 1) d hd (by omega) (by omega)
        · rw [if_pos ⟨h0, h1, rfl⟩]
          refine eR.ifc rfl false rfl ?_
          refine eR.step 6 (F' := (53, [(0, .ref 10), (1, .int (nI (bi true))), (2, .int (nI (c + 1))), (3, .int (nI (i)))], [.int (nI (i)), .ref 13, .int (nI (i)), .ref 8])) (h' := (Gc L xs A B U V S d X)) (fun _ _ => rfl) ?_
          refine eR.sim rfl (F := (54, [(0, .ref 10), (1, .int (nI (bi true))), (2, .int (nI (c + 1))), (3, .int (nI (i)))], [.int (nI (S.2.2.1 i)), .int (nI (i)), .ref 8])) (h' := (Gc L xs A B U V S d X)) (by simp [mj_sim, mj_ar, mj_gi, Gc, na_ix (show i < 16 by omega) (by decide)]) ?_
          refine eR.call (k' := 28) (as := [.ref 8, .int (nI (i)), .int (nI (S.2.2.1 i))]) (rest := []) (v := none) (h1 := (Gc L xs A B U V S (dp d (32 + (16 * i) + 1) (S.2.2.1 i)) X)) rfl rfl rfl rfl (eg (Nat.le_of_ble_eq_true rfl) (show 22 ≤ lo by omega) (Nat.le_of_ble_eq_true rfl)) (c_setLinks (show 22 ≤ lo - 22 by omega) (by omega)) ?_
          refine eR.step 1 (F' := (60, [(0, .ref 10), (1, .int (nI (bi true))), (2, .int (nI (c + 1))), (3, .int (nI (i) + 1))], [])) (h' := (Gc L xs A B U V S (dp d (32 + (16 * i) + 1) (S.2.2.1 i)) X)) (fun _ _ => rfl) ?_
          rw [show nI (i) + 1 = nI (i + 1) from nI_add (i) 1]
          refine eR.step 1 (F' := (4, [(0, .ref 10), (1, .int (nI (bi true))), (2, .int (nI (c + 1))), (3, .int (nI (i + 1)))], [])) (h' := (Gc L xs A B U V S (dp d (32 + (16 * i) + 1) (S.2.2.1 i)) X)) (fun _ _ => rfl) ?_
          exact l_wrongLinks hlo hv n (i + 1) (c + 1) _ (dp_dk hd _ _) (by omega) (by omega)
    · rw [if_neg (fun z => h0 z.1), if_neg (fun z => h0 z.1), bj_f h0]
      refine eR.ifc rfl true rfl ?_
      refine eR.step 1 (F' := (60, [(0, .ref 10), (1, .int (nI (bi r))), (2, .int (nI (c))), (3, .int (nI (i) + 1))], [])) (h' := (Gc L xs A B U V S d X)) (fun _ _ => rfl) ?_
      rw [show nI (i) + 1 = nI (i + 1) from nI_add (i) 1]
      refine eR.step 1 (F' := (4, [(0, .ref 10), (1, .int (nI (bi r))), (2, .int (nI (c))), (3, .int (nI (i + 1)))], [])) (h' := (Gc L xs A B U V S d X)) (fun _ _ => rfl) ?_
      exact l_wrongLinks hlo hv n (i + 1) c d hd (by omega) (by omega)
theorem c_wrongLinks {cm sm fr lo L : Nat} {xs : Nat → Int32} {A B : gT} {U V : gU} {S : gS} {d : Nat → Nat} {X : mj_H} (hlo : 44 ≤ lo) (hd : dk d) (hv : ∀ k, k < 16 → S.2.2.1 k < 2 ^ 20) {r : Bool} : eE mm_P cm sm (fr + 3) lo 59 [.ref 10, .int (nI (bi r))] (Gc L xs A B U V S d X) (.inl (some (.int (nI (wM S r d 0 1 15)))), (Gc L xs A B U V S (wL S r d 1 15) X)) := by
  refine eE.of ?_
  refine eR.step 4 (F' := (4, [(0, .ref 10), (1, .int (nI (bi r))), (2, .int (nI 0)), (3, .int (nI 1))], [])) (h' := (Gc L xs A B U V S d X)) (fun _ _ => rfl) ?_
  exact l_wrongLinks hlo hv 15 1 0 d hd (by decide) (by decide)

