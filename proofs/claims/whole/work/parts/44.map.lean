/-- how many of n bits from i on are not set -/
def cf (d : Nat → Nat) (a : Nat) : Nat → Nat → Nat
  | _, 0 => 0
  | i, n + 1 => (if bt d a i = true then 0 else 1) + cf d a (i + 1) n
/-- the lowest of n bits from i on that is not set, or 0 -/
def lw (d : Nat → Nat) (a : Nat) : Nat → Nat → Nat
  | _, 0 => 0
  | i, n + 1 => if bt d a i = true then lw d a (i + 1) n else i
/-- what taking it leaves -/
def tk (d : Nat → Nat) (a j : Nat) : Nat → Nat := if j = 0 then d else tb d a j
theorem cf_le (d : Nat → Nat) (a : Nat) : ∀ n i, cf d a i n ≤ n
  | 0, _ => Nat.le_refl _
  | n + 1, i => by
    have := cf_le d a n (i + 1)
    unfold cf
    split <;> omega
theorem bi_t {b : Bool} (h : b = true) : bi b = 1 := by rw [h]; rfl
theorem bi_f {b : Bool} (h : ¬ b = true) : bi b = 0 := by
  cases b
  · rfl
  · exact absurd rfl h
theorem bi_lt (b : Bool) : bi b < 2 := by cases b <;> decide
theorem tb_dk {d : Nat → Nat} (h : dk d) (a i : Nat) : dk (tb d a i) := dp_dk h _ _
theorem tk_dk {d : Nat → Nat} (h : dk d) (a i : Nat) : dk (tk d a i) := by
  unfold tk
  split
  · exact h
  · exact tb_dk h a i
theorem c_first_6 {cm sm fr lo L : Nat} {xs : Nat → Int32} {A B : gT} {U V : gU} {S : gS} {d : Nat → Nat} {X : mj_H}  : eE mm_P cm sm (fr + 1) lo 55 [.ref 6] (Gc L xs A B U V S d X) (.inl (some (.int (nI 1))), Gc L xs A B U V S d X) := by
  refine eE.of ?_
  refine eR.step 2 (F' := (4, [(0, .ref 6)], [.int (nI 1)])) (h' := (Gc L xs A B U V S d X)) (fun _ _ => rfl) ?_
  exact eR.ret rfl rfl rfl
theorem c_size_6 {cm sm fr lo L : Nat} {xs : Nat → Int32} {A B : gT} {U V : gU} {S : gS} {d : Nat → Nat} {X : mj_H}  : eE mm_P cm sm (fr + 1) lo 56 [.ref 6] (Gc L xs A B U V S d X) (.inl (some (.int (nI 16))), Gc L xs A B U V S d X) := by
  refine eE.of ?_
  refine eR.step 2 (F' := (4, [(0, .ref 6)], [.int (nI 16)])) (h' := (Gc L xs A B U V S d X)) (fun _ _ => rfl) ?_
  exact eR.ret rfl rfl rfl
theorem c_isTaken_6 {cm sm fr lo L : Nat} {xs : Nat → Int32} {A B : gT} {U V : gU} {S : gS} {d : Nat → Nat} {X : mj_H} (hlo : 23 ≤ lo) (hd : dk d) {i : Nat} (hi : i < 2 ^ 30) : eE mm_P cm sm (fr + 2) lo 57 [.ref 6, .int (nI (i))] (Gc L xs A B U V S d X) (.inl (some (.int (nI (bi (bt d 1 i))))), Gc L xs A B U V S d X) := by
  refine eE.of ?_
  refine eR.step 5 (F' := (9, [(0, .ref 6), (1, .int (nI (i)))], [.int (nI (i)), .int (nI 1), .ref 4])) (h' := (Gc L xs A B U V S d X)) (fun _ _ => rfl) ?_
  refine eR.call (k' := 15) (as := [.ref 4, .int (nI 1), .int (nI (i))]) (rest := []) (v := some (.int (nI (bi (bt d 1 i))))) (h1 := (Gc L xs A B U V S d X)) rfl rfl rfl rfl (eg (Nat.le_of_ble_eq_true rfl) (show 23 ≤ lo by omega) (Nat.le_of_ble_eq_true rfl)) (c_hasBit hd (by decide) (by omega)) ?_
  cases hb : bt d 1 i
  · exact eR.ret rfl rfl rfl
  · exact eR.ret rfl rfl rfl
theorem c_turn_6 {cm sm fr lo L : Nat} {xs : Nat → Int32} {A B : gT} {U V : gU} {S : gS} {d : Nat → Nat} {X : mj_H} (hlo : 23 ≤ lo) (hd : dk d) {i : Nat} (hi : i < 2 ^ 30) : eE mm_P cm sm (fr + 2) lo 39 [.ref 6, .int (nI (i))] (Gc L xs A B U V S d X) (.inl (none), Gc L xs A B U V S (tb d 1 i) X) := by
  refine eE.of ?_
  refine eR.step 5 (F' := (9, [(0, .ref 6), (1, .int (nI (i)))], [.int (nI (i)), .int (nI 1), .ref 4])) (h' := (Gc L xs A B U V S d X)) (fun _ _ => rfl) ?_
  refine eR.call (k' := 12) (as := [.ref 4, .int (nI 1), .int (nI (i))]) (rest := []) (v := none) (h1 := (Gc L xs A B U V S (tb d 1 i) X)) rfl rfl rfl rfl (eg (Nat.le_of_ble_eq_true rfl) (show 23 ≤ lo by omega) (Nat.le_of_ble_eq_true rfl)) (c_turnBit hd (by decide) (by omega)) ?_
  exact eR.ret rfl rfl rfl
theorem c_can_6 {cm sm fr lo L : Nat} {xs : Nat → Int32} {A B : gT} {U V : gU} {S : gS} {d : Nat → Nat} {X : mj_H} {i : Nat} (hi : i < 2 ^ 31) : eE mm_P cm sm (fr + 1) lo 38 [.ref 6, .int (nI (i))] (Gc L xs A B U V S d X) (.inl (some (.int (nI (bi (decide (1 ≤ i ∧ i < 16)))))), Gc L xs A B U V S d X) := by
  by_cases h1 : i < 1
  · rw [decide_eq_false (by omega)]
    refine eE.of ?_
    refine eR.step 3 (F' := (5, [(0, .ref 6), (1, .int (nI (i)))], [.int (nI 1), .int (nI (i))])) (h' := (Gc L xs A B U V S d X)) (fun _ _ => rfl) ?_
    refine eR.icmp rfl true ((nc_lt (by omega) (by decide)).trans (decide_eq_true (by omega))) ?_
    refine eR.step 1 (F' := (21, [(0, .ref 6), (1, .int (nI (i)))], [.int (nI 0)])) (h' := (Gc L xs A B U V S d X)) (fun _ _ => rfl) ?_
    exact eR.ret rfl rfl rfl
  · by_cases h2 : i < 16
    · rw [decide_eq_true (by omega)]
      refine eE.of ?_
      refine eR.step 3 (F' := (5, [(0, .ref 6), (1, .int (nI (i)))], [.int (nI 1), .int (nI (i))])) (h' := (Gc L xs A B U V S d X)) (fun _ _ => rfl) ?_
      refine eR.icmp rfl false ((nc_lt (by omega) (by decide)).trans (decide_eq_false (by omega))) ?_
      refine eR.step 3 (F' := (13, [(0, .ref 6), (1, .int (nI (i)))], [.int (nI 16), .int (nI (i))])) (h' := (Gc L xs A B U V S d X)) (fun _ _ => rfl) ?_
      refine eR.icmp rfl false ((nc_ge (by omega) (by decide)).trans (decide_eq_false (by omega))) ?_
      refine eR.step 2 (F' := (21, [(0, .ref 6), (1, .int (nI (i)))], [.int (nI 1)])) (h' := (Gc L xs A B U V S d X)) (fun _ _ => rfl) ?_
      exact eR.ret rfl rfl rfl
    · rw [decide_eq_false (by omega)]
      refine eE.of ?_
      refine eR.step 3 (F' := (5, [(0, .ref 6), (1, .int (nI (i)))], [.int (nI 1), .int (nI (i))])) (h' := (Gc L xs A B U V S d X)) (fun _ _ => rfl) ?_
      refine eR.icmp rfl false ((nc_lt (by omega) (by decide)).trans (decide_eq_false (by omega))) ?_
      refine eR.step 3 (F' := (13, [(0, .ref 6), (1, .int (nI (i)))], [.int (nI 16), .int (nI (i))])) (h' := (Gc L xs A B U V S d X)) (fun _ _ => rfl) ?_
      refine eR.icmp rfl true ((nc_ge (by omega) (by decide)).trans (decide_eq_true (by omega))) ?_
      refine eR.step 1 (F' := (21, [(0, .ref 6), (1, .int (nI (i)))], [.int (nI 0)])) (h' := (Gc L xs A B U V S d X)) (fun _ _ => rfl) ?_
      exact eR.ret rfl rfl rfl
theorem c_can_m_6 {cm sm fr lo L : Nat} {xs : Nat → Int32} {A B : gT} {U V : gU} {S : gS} {d : Nat → Nat} {X : mj_H} {x : Int32} (hx : x < 0) : eE mm_P cm sm (fr + 1) lo 38 [.ref 6, .int (x)] (Gc L xs A B U V S d X) (.inl (some (.int (nI 0))), Gc L xs A B U V S d X) := by
  have h1 : x < nI 1 := by
    rw [Int32.lt_iff_toInt_lt] at hx ⊢
    rw [nI_toInt (by decide)]
    have : (0 : Int32).toInt = 0 := rfl
    omega
  refine eE.of ?_
  refine eR.step 3 (F' := (5, [(0, .ref 6), (1, .int (x))], [.int (nI 1), .int (x)])) (h' := (Gc L xs A B U V S d X)) (fun _ _ => rfl) ?_
  refine eR.icmp rfl true (decide_eq_true h1) ?_
  refine eR.step 1 (F' := (21, [(0, .ref 6), (1, .int (x))], [.int (nI 0)])) (h' := (Gc L xs A B U V S d X)) (fun _ _ => rfl) ?_
  exact eR.ret rfl rfl rfl
theorem l_left_6 {cm sm fr lo L : Nat} {xs : Nat → Int32} {A B : gT} {U V : gU} {S : gS} {d : Nat → Nat} {X : mj_H} (hlo : 23 ≤ lo) (hd : dk d) : ∀ q i c : Nat, i + q = 16 → c + q ≤ 16 → eR mm_P cm sm (fr + 1) lo 62 (7, [(0, .ref 6), (1, .int (nI c)), (2, .int (nI i))], []) (Gc L xs A B U V S d X) (.inl (some (.int (nI (c + cf d 1 i q)))), Gc L xs A B U V S d X)
  | 0, i, c, hm, hc => by
    show eR _ _ _ _ _ _ _ _ (.inl (some (.int (nI c))), _)
    refine eR.step 3 (F' := (12, [(0, .ref 6), (1, .int (nI (c))), (2, .int (nI (i)))], [.int (nI 16), .int (nI (i))])) (h' := (Gc L xs A B U V S d X)) (fun _ _ => rfl) ?_
    refine eR.icmp rfl true ((nc_ge (by omega) (by decide)).trans (decide_eq_true (by omega))) ?_
    refine eR.step 1 (F' := (40, [(0, .ref 6), (1, .int (nI (c))), (2, .int (nI (i)))], [.int (nI (c))])) (h' := (Gc L xs A B U V S d X)) (fun _ _ => rfl) ?_
    exact eR.ret rfl rfl rfl
  | q + 1, i, c, hm, hc => by
    refine eR.step 3 (F' := (12, [(0, .ref 6), (1, .int (nI (c))), (2, .int (nI (i)))], [.int (nI 16), .int (nI (i))])) (h' := (Gc L xs A B U V S d X)) (fun _ _ => rfl) ?_
    refine eR.icmp rfl false ((nc_ge (by omega) (by decide)).trans (decide_eq_false (by omega))) ?_
    refine eR.step 5 (F' := (24, [(0, .ref 6), (1, .int (nI (c))), (2, .int (nI (i)))], [.int (nI (i)), .int (nI 1), .ref 4])) (h' := (Gc L xs A B U V S d X)) (fun _ _ => rfl) ?_
    refine eR.call (k' := 15) (as := [.ref 4, .int (nI 1), .int (nI (i))]) (rest := []) (v := some (.int (nI (bi (bt d 1 i))))) (h1 := (Gc L xs A B U V S d X)) rfl rfl rfl rfl (eg (Nat.le_of_ble_eq_true rfl) (show 23 ≤ lo by omega) (Nat.le_of_ble_eq_true rfl)) (c_hasBit hd (by decide) (by omega)) ?_
    by_cases hb : bt d 1 i = true
    · refine eR.ifc rfl true ((nc_ne (b := 0) (by rw [bi_t hb]; decide) (by decide)).trans (decide_eq_true (by rw [bi_t hb]; decide))) ?_
      refine eR.step 1 (F' := (36, [(0, .ref 6), (1, .int (nI (c))), (2, .int (nI (i) + 1))], [])) (h' := (Gc L xs A B U V S d X)) (fun _ _ => rfl) ?_
      rw [show nI (i) + 1 = nI (i + 1) from nI_add (i) 1]
      refine eR.step 1 (F' := (7, [(0, .ref 6), (1, .int (nI (c))), (2, .int (nI (i + 1)))], [])) (h' := (Gc L xs A B U V S d X)) (fun _ _ => rfl) ?_
      have h := l_left_6 hlo hd q (i + 1) c (by omega) (by omega) (cm := cm) (sm := sm) (fr := fr) (L := L) (xs := xs) (A := A) (B := B) (U := U) (V := V) (S := S) (X := X)
      unfold cf
      rw [if_pos hb, Nat.zero_add]
      exact h
    · refine eR.ifc rfl false ((nc_ne (b := 0) (by rw [bi_f hb]; decide) (by decide)).trans (decide_eq_false (by rw [bi_f hb]; decide))) ?_
      refine eR.step 1 (F' := (33, [(0, .ref 6), (1, .int (nI (c) + 1)), (2, .int (nI (i)))], [])) (h' := (Gc L xs A B U V S d X)) (fun _ _ => rfl) ?_
      rw [show nI (c) + 1 = nI (c + 1) from nI_add (c) 1]
      refine eR.step 1 (F' := (36, [(0, .ref 6), (1, .int (nI (c + 1))), (2, .int (nI (i) + 1))], [])) (h' := (Gc L xs A B U V S d X)) (fun _ _ => rfl) ?_
      rw [show nI (i) + 1 = nI (i + 1) from nI_add (i) 1]
      refine eR.step 1 (F' := (7, [(0, .ref 6), (1, .int (nI (c + 1))), (2, .int (nI (i + 1)))], [])) (h' := (Gc L xs A B U V S d X)) (fun _ _ => rfl) ?_
      have h := l_left_6 hlo hd q (i + 1) (c + 1) (by omega) (by omega) (cm := cm) (sm := sm) (fr := fr) (L := L) (xs := xs) (A := A) (B := B) (U := U) (V := V) (S := S) (X := X)
      unfold cf
      rw [if_neg hb, ← Nat.add_assoc]
      exact h
theorem c_left_6 {cm sm fr lo L : Nat} {xs : Nat → Int32} {A B : gT} {U V : gU} {S : gS} {d : Nat → Nat} {X : mj_H} (hlo : 23 ≤ lo) (hd : dk d) : eE mm_P cm sm (fr + 2) lo 62 [.ref 6] (Gc L xs A B U V S d X) (.inl (some (.int (nI (cf d 1 1 15)))), Gc L xs A B U V S d X) := by
  refine eE.of ?_
  refine eR.step 5 (F' := (7, [(0, .ref 6), (1, .int (nI 0)), (2, .int (nI 1))], [])) (h' := (Gc L xs A B U V S d X)) (fun _ _ => rfl) ?_
  have h := l_left_6 hlo hd 15 1 0 (by decide) (by decide) (cm := cm) (sm := sm) (fr := fr) (L := L) (xs := xs) (A := A) (B := B) (U := U) (V := V) (S := S) (X := X)
  rw [Nat.zero_add] at h
  exact h
theorem l_take_6 {cm sm fr lo L : Nat} {xs : Nat → Int32} {A B : gT} {U V : gU} {S : gS} {d : Nat → Nat} {X : mj_H} (hlo : 23 ≤ lo) (hd : dk d) : ∀ q i : Nat, 0 < i → i + q = 16 → eR mm_P cm sm (fr + 1) lo 14 (5, [(0, .ref 6), (1, .int (nI i))], []) (Gc L xs A B U V S d X) (.inl (some (.int (nI (lw d 1 i q)))), Gc L xs A B U V S (tk d 1 (lw d 1 i q)) X)
  | 0, i, h0, hm => by
    refine eR.step 3 (F' := (10, [(0, .ref 6), (1, .int (nI (i)))], [.int (nI 16), .int (nI (i))])) (h' := (Gc L xs A B U V S d X)) (fun _ _ => rfl) ?_
    refine eR.icmp rfl true ((nc_ge (by omega) (by decide)).trans (decide_eq_true (by omega))) ?_
    refine eR.step 1 (F' := (49, [(0, .ref 6), (1, .int (nI (i)))], [.int (nI 0)])) (h' := (Gc L xs A B U V S d X)) (fun _ _ => rfl) ?_
    exact eR.ret rfl rfl rfl
  | q + 1, i, h0, hm => by
    refine eR.step 3 (F' := (10, [(0, .ref 6), (1, .int (nI (i)))], [.int (nI 16), .int (nI (i))])) (h' := (Gc L xs A B U V S d X)) (fun _ _ => rfl) ?_
    refine eR.icmp rfl false ((nc_ge (by omega) (by decide)).trans (decide_eq_false (by omega))) ?_
    refine eR.step 5 (F' := (22, [(0, .ref 6), (1, .int (nI (i)))], [.int (nI (i)), .int (nI 1), .ref 4])) (h' := (Gc L xs A B U V S d X)) (fun _ _ => rfl) ?_
    refine eR.call (k' := 15) (as := [.ref 4, .int (nI 1), .int (nI (i))]) (rest := []) (v := some (.int (nI (bi (bt d 1 i))))) (h1 := (Gc L xs A B U V S d X)) rfl rfl rfl rfl (eg (Nat.le_of_ble_eq_true rfl) (show 23 ≤ lo by omega) (Nat.le_of_ble_eq_true rfl)) (c_hasBit hd (by decide) (by omega)) ?_
    by_cases hb : bt d 1 i = true
    · refine eR.ifc rfl true ((nc_ne (b := 0) (by rw [bi_t hb]; decide) (by decide)).trans (decide_eq_true (by rw [bi_t hb]; decide))) ?_
      refine eR.step 1 (F' := (45, [(0, .ref 6), (1, .int (nI (i) + 1))], [])) (h' := (Gc L xs A B U V S d X)) (fun _ _ => rfl) ?_
      rw [show nI (i) + 1 = nI (i + 1) from nI_add (i) 1]
      refine eR.step 1 (F' := (5, [(0, .ref 6), (1, .int (nI (i + 1)))], [])) (h' := (Gc L xs A B U V S d X)) (fun _ _ => rfl) ?_
      have h := l_take_6 hlo hd q (i + 1) (by omega) (by omega) (cm := cm) (sm := sm) (fr := fr) (L := L) (xs := xs) (A := A) (B := B) (U := U) (V := V) (S := S) (X := X)
      unfold lw
      rw [if_pos hb]
      exact h
    · unfold lw
      rw [if_neg hb]
      unfold tk
      rw [if_neg (by omega)]
      refine eR.ifc rfl false ((nc_ne (b := 0) (by rw [bi_f hb]; decide) (by decide)).trans (decide_eq_false (by rw [bi_f hb]; decide))) ?_
      refine eR.step 5 (F' := (37, [(0, .ref 6), (1, .int (nI (i)))], [.int (nI (i)), .int (nI 1), .ref 4])) (h' := (Gc L xs A B U V S d X)) (fun _ _ => rfl) ?_
      refine eR.call (k' := 12) (as := [.ref 4, .int (nI 1), .int (nI (i))]) (rest := []) (v := none) (h1 := (Gc L xs A B U V S (tb d 1 i) X)) rfl rfl rfl rfl (eg (Nat.le_of_ble_eq_true rfl) (show 23 ≤ lo by omega) (Nat.le_of_ble_eq_true rfl)) (c_turnBit hd (by decide) (by omega)) ?_
      refine eR.step 1 (F' := (41, [(0, .ref 6), (1, .int (nI (i)))], [.int (nI (i))])) (h' := (Gc L xs A B U V S (tb d 1 i) X)) (fun _ _ => rfl) ?_
      exact eR.ret rfl rfl rfl
theorem c_take_6 {cm sm fr lo L : Nat} {xs : Nat → Int32} {A B : gT} {U V : gU} {S : gS} {d : Nat → Nat} {X : mj_H} (hlo : 23 ≤ lo) (hd : dk d) : eE mm_P cm sm (fr + 2) lo 14 [.ref 6] (Gc L xs A B U V S d X) (.inl (some (.int (nI (lw d 1 1 15)))), Gc L xs A B U V S (tk d 1 (lw d 1 1 15)) X) := by
  refine eE.of ?_
  refine eR.step 3 (F' := (5, [(0, .ref 6), (1, .int (nI 1))], [])) (h' := (Gc L xs A B U V S d X)) (fun _ _ => rfl) ?_
  exact l_take_6 hlo hd 15 1 (by decide) (by decide)
/-- what giving back leaves -/
def gb_6 (d : Nat → Nat) (i : Nat) : Nat → Nat := if (1 ≤ i ∧ i < 16) ∧ bt d 1 i = true then tb d 1 i else d
theorem c_give_6 {cm sm fr lo L : Nat} {xs : Nat → Int32} {A B : gT} {U V : gU} {S : gS} {d : Nat → Nat} {X : mj_H} (hlo : 23 ≤ lo) (hd : dk d) {i : Nat} (hi : i < 2 ^ 30) : eE mm_P cm sm (fr + 2) lo 90 [.ref 6, .int (nI (i))] (Gc L xs A B U V S d X) (.inl (none), Gc L xs A B U V S (gb_6 d i) X) := by
  refine eE.of ?_
  refine eR.step 2 (F' := (2, [(0, .ref 6), (1, .int (nI (i)))], [.int (nI (i)), .ref 6])) (h' := (Gc L xs A B U V S d X)) (fun _ _ => rfl) ?_
  refine eR.call (k' := 38) (as := [.ref 6, .int (nI (i))]) (rest := []) (v := some (.int (nI (bi (decide (1 ≤ i ∧ i < 16)))))) (h1 := (Gc L xs A B U V S d X)) rfl rfl rfl rfl (eg (Nat.le_of_ble_eq_true rfl) (show 21 ≤ lo by omega) (Nat.le_of_ble_eq_true rfl)) (c_can_6 (by omega)) ?_
  by_cases hc : 1 ≤ i ∧ i < 16
  · refine eR.ifc rfl false ((nc_eq (b := 0) (by rw [decide_eq_true hc]; decide) (by decide)).trans (decide_eq_false (by rw [decide_eq_true hc]; decide))) ?_
    refine eR.step 5 (F' := (17, [(0, .ref 6), (1, .int (nI (i)))], [.int (nI (i)), .int (nI 1), .ref 4])) (h' := (Gc L xs A B U V S d X)) (fun _ _ => rfl) ?_
    refine eR.call (k' := 15) (as := [.ref 4, .int (nI 1), .int (nI (i))]) (rest := []) (v := some (.int (nI (bi (bt d 1 i))))) (h1 := (Gc L xs A B U V S d X)) rfl rfl rfl rfl (eg (Nat.le_of_ble_eq_true rfl) (show 23 ≤ lo by omega) (Nat.le_of_ble_eq_true rfl)) (c_hasBit hd (by decide) (by omega)) ?_
    by_cases hb : bt d 1 i = true
    · unfold gb_6
      rw [if_pos ⟨hc, hb⟩]
      refine eR.ifc rfl false ((nc_eq (b := 0) (by rw [bi_t hb]; decide) (by decide)).trans (decide_eq_false (by rw [bi_t hb]; decide))) ?_
      refine eR.step 5 (F' := (32, [(0, .ref 6), (1, .int (nI (i)))], [.int (nI (i)), .int (nI 1), .ref 4])) (h' := (Gc L xs A B U V S d X)) (fun _ _ => rfl) ?_
      refine eR.call (k' := 12) (as := [.ref 4, .int (nI 1), .int (nI (i))]) (rest := []) (v := none) (h1 := (Gc L xs A B U V S (tb d 1 i) X)) rfl rfl rfl rfl (eg (Nat.le_of_ble_eq_true rfl) (show 23 ≤ lo by omega) (Nat.le_of_ble_eq_true rfl)) (c_turnBit hd (by decide) (by omega)) ?_
      exact eR.ret rfl rfl rfl
    · unfold gb_6
      rw [if_neg (fun z => hb z.2)]
      refine eR.ifc rfl true ((nc_eq (b := 0) (by rw [bi_f hb]; decide) (by decide)).trans (decide_eq_true (by rw [bi_f hb]))) ?_
      exact eR.ret rfl rfl rfl
  · unfold gb_6
    rw [if_neg (fun z => hc z.1)]
    refine eR.ifc rfl true ((nc_eq (b := 0) (by rw [decide_eq_false hc]; decide) (by decide)).trans (decide_eq_true (by rw [decide_eq_false hc]; rfl))) ?_
    exact eR.ret rfl rfl rfl
theorem c_first_7 {cm sm fr lo L : Nat} {xs : Nat → Int32} {A B : gT} {U V : gU} {S : gS} {d : Nat → Nat} {X : mj_H}  : eE mm_P cm sm (fr + 1) lo 55 [.ref 7] (Gc L xs A B U V S d X) (.inl (some (.int (nI 9))), Gc L xs A B U V S d X) := by
  refine eE.of ?_
  refine eR.step 2 (F' := (4, [(0, .ref 7)], [.int (nI 9)])) (h' := (Gc L xs A B U V S d X)) (fun _ _ => rfl) ?_
  exact eR.ret rfl rfl rfl
theorem c_size_7 {cm sm fr lo L : Nat} {xs : Nat → Int32} {A B : gT} {U V : gU} {S : gS} {d : Nat → Nat} {X : mj_H}  : eE mm_P cm sm (fr + 1) lo 56 [.ref 7] (Gc L xs A B U V S d X) (.inl (some (.int (nI 64))), Gc L xs A B U V S d X) := by
  refine eE.of ?_
  refine eR.step 2 (F' := (4, [(0, .ref 7)], [.int (nI 64)])) (h' := (Gc L xs A B U V S d X)) (fun _ _ => rfl) ?_
  exact eR.ret rfl rfl rfl
theorem c_isTaken_7 {cm sm fr lo L : Nat} {xs : Nat → Int32} {A B : gT} {U V : gU} {S : gS} {d : Nat → Nat} {X : mj_H} (hlo : 23 ≤ lo) (hd : dk d) {i : Nat} (hi : i < 2 ^ 30) : eE mm_P cm sm (fr + 2) lo 57 [.ref 7, .int (nI (i))] (Gc L xs A B U V S d X) (.inl (some (.int (nI (bi (bt d 3 i))))), Gc L xs A B U V S d X) := by
  refine eE.of ?_
  refine eR.step 5 (F' := (9, [(0, .ref 7), (1, .int (nI (i)))], [.int (nI (i)), .int (nI 3), .ref 4])) (h' := (Gc L xs A B U V S d X)) (fun _ _ => rfl) ?_
  refine eR.call (k' := 15) (as := [.ref 4, .int (nI 3), .int (nI (i))]) (rest := []) (v := some (.int (nI (bi (bt d 3 i))))) (h1 := (Gc L xs A B U V S d X)) rfl rfl rfl rfl (eg (Nat.le_of_ble_eq_true rfl) (show 23 ≤ lo by omega) (Nat.le_of_ble_eq_true rfl)) (c_hasBit hd (by decide) (by omega)) ?_
  cases hb : bt d 3 i
  · exact eR.ret rfl rfl rfl
  · exact eR.ret rfl rfl rfl
theorem c_turn_7 {cm sm fr lo L : Nat} {xs : Nat → Int32} {A B : gT} {U V : gU} {S : gS} {d : Nat → Nat} {X : mj_H} (hlo : 23 ≤ lo) (hd : dk d) {i : Nat} (hi : i < 2 ^ 30) : eE mm_P cm sm (fr + 2) lo 39 [.ref 7, .int (nI (i))] (Gc L xs A B U V S d X) (.inl (none), Gc L xs A B U V S (tb d 3 i) X) := by
  refine eE.of ?_
  refine eR.step 5 (F' := (9, [(0, .ref 7), (1, .int (nI (i)))], [.int (nI (i)), .int (nI 3), .ref 4])) (h' := (Gc L xs A B U V S d X)) (fun _ _ => rfl) ?_
  refine eR.call (k' := 12) (as := [.ref 4, .int (nI 3), .int (nI (i))]) (rest := []) (v := none) (h1 := (Gc L xs A B U V S (tb d 3 i) X)) rfl rfl rfl rfl (eg (Nat.le_of_ble_eq_true rfl) (show 23 ≤ lo by omega) (Nat.le_of_ble_eq_true rfl)) (c_turnBit hd (by decide) (by omega)) ?_
  exact eR.ret rfl rfl rfl
theorem c_can_7 {cm sm fr lo L : Nat} {xs : Nat → Int32} {A B : gT} {U V : gU} {S : gS} {d : Nat → Nat} {X : mj_H} {i : Nat} (hi : i < 2 ^ 31) : eE mm_P cm sm (fr + 1) lo 38 [.ref 7, .int (nI (i))] (Gc L xs A B U V S d X) (.inl (some (.int (nI (bi (decide (9 ≤ i ∧ i < 64)))))), Gc L xs A B U V S d X) := by
  by_cases h1 : i < 9
  · rw [decide_eq_false (by omega)]
    refine eE.of ?_
    refine eR.step 3 (F' := (5, [(0, .ref 7), (1, .int (nI (i)))], [.int (nI 9), .int (nI (i))])) (h' := (Gc L xs A B U V S d X)) (fun _ _ => rfl) ?_
    refine eR.icmp rfl true ((nc_lt (by omega) (by decide)).trans (decide_eq_true (by omega))) ?_
    refine eR.step 1 (F' := (21, [(0, .ref 7), (1, .int (nI (i)))], [.int (nI 0)])) (h' := (Gc L xs A B U V S d X)) (fun _ _ => rfl) ?_
    exact eR.ret rfl rfl rfl
  · by_cases h2 : i < 64
    · rw [decide_eq_true (by omega)]
      refine eE.of ?_
      refine eR.step 3 (F' := (5, [(0, .ref 7), (1, .int (nI (i)))], [.int (nI 9), .int (nI (i))])) (h' := (Gc L xs A B U V S d X)) (fun _ _ => rfl) ?_
      refine eR.icmp rfl false ((nc_lt (by omega) (by decide)).trans (decide_eq_false (by omega))) ?_
      refine eR.step 3 (F' := (13, [(0, .ref 7), (1, .int (nI (i)))], [.int (nI 64), .int (nI (i))])) (h' := (Gc L xs A B U V S d X)) (fun _ _ => rfl) ?_
      refine eR.icmp rfl false ((nc_ge (by omega) (by decide)).trans (decide_eq_false (by omega))) ?_
      refine eR.step 2 (F' := (21, [(0, .ref 7), (1, .int (nI (i)))], [.int (nI 1)])) (h' := (Gc L xs A B U V S d X)) (fun _ _ => rfl) ?_
      exact eR.ret rfl rfl rfl
    · rw [decide_eq_false (by omega)]
      refine eE.of ?_
      refine eR.step 3 (F' := (5, [(0, .ref 7), (1, .int (nI (i)))], [.int (nI 9), .int (nI (i))])) (h' := (Gc L xs A B U V S d X)) (fun _ _ => rfl) ?_
      refine eR.icmp rfl false ((nc_lt (by omega) (by decide)).trans (decide_eq_false (by omega))) ?_
      refine eR.step 3 (F' := (13, [(0, .ref 7), (1, .int (nI (i)))], [.int (nI 64), .int (nI (i))])) (h' := (Gc L xs A B U V S d X)) (fun _ _ => rfl) ?_
      refine eR.icmp rfl true ((nc_ge (by omega) (by decide)).trans (decide_eq_true (by omega))) ?_
      refine eR.step 1 (F' := (21, [(0, .ref 7), (1, .int (nI (i)))], [.int (nI 0)])) (h' := (Gc L xs A B U V S d X)) (fun _ _ => rfl) ?_
      exact eR.ret rfl rfl rfl
theorem c_can_m_7 {cm sm fr lo L : Nat} {xs : Nat → Int32} {A B : gT} {U V : gU} {S : gS} {d : Nat → Nat} {X : mj_H} {x : Int32} (hx : x < 0) : eE mm_P cm sm (fr + 1) lo 38 [.ref 7, .int (x)] (Gc L xs A B U V S d X) (.inl (some (.int (nI 0))), Gc L xs A B U V S d X) := by
  have h1 : x < nI 9 := by
    rw [Int32.lt_iff_toInt_lt] at hx ⊢
    rw [nI_toInt (by decide)]
    have : (0 : Int32).toInt = 0 := rfl
    omega
  refine eE.of ?_
  refine eR.step 3 (F' := (5, [(0, .ref 7), (1, .int (x))], [.int (nI 9), .int (x)])) (h' := (Gc L xs A B U V S d X)) (fun _ _ => rfl) ?_
  refine eR.icmp rfl true (decide_eq_true h1) ?_
  refine eR.step 1 (F' := (21, [(0, .ref 7), (1, .int (x))], [.int (nI 0)])) (h' := (Gc L xs A B U V S d X)) (fun _ _ => rfl) ?_
  exact eR.ret rfl rfl rfl
theorem l_left_7 {cm sm fr lo L : Nat} {xs : Nat → Int32} {A B : gT} {U V : gU} {S : gS} {d : Nat → Nat} {X : mj_H} (hlo : 23 ≤ lo) (hd : dk d) : ∀ q i c : Nat, i + q = 64 → c + q ≤ 64 → eR mm_P cm sm (fr + 1) lo 62 (7, [(0, .ref 7), (1, .int (nI c)), (2, .int (nI i))], []) (Gc L xs A B U V S d X) (.inl (some (.int (nI (c + cf d 3 i q)))), Gc L xs A B U V S d X)
  | 0, i, c, hm, hc => by
    show eR _ _ _ _ _ _ _ _ (.inl (some (.int (nI c))), _)
    refine eR.step 3 (F' := (12, [(0, .ref 7), (1, .int (nI (c))), (2, .int (nI (i)))], [.int (nI 64), .int (nI (i))])) (h' := (Gc L xs A B U V S d X)) (fun _ _ => rfl) ?_
    refine eR.icmp rfl true ((nc_ge (by omega) (by decide)).trans (decide_eq_true (by omega))) ?_
    refine eR.step 1 (F' := (40, [(0, .ref 7), (1, .int (nI (c))), (2, .int (nI (i)))], [.int (nI (c))])) (h' := (Gc L xs A B U V S d X)) (fun _ _ => rfl) ?_
    exact eR.ret rfl rfl rfl
  | q + 1, i, c, hm, hc => by
    refine eR.step 3 (F' := (12, [(0, .ref 7), (1, .int (nI (c))), (2, .int (nI (i)))], [.int (nI 64), .int (nI (i))])) (h' := (Gc L xs A B U V S d X)) (fun _ _ => rfl) ?_
    refine eR.icmp rfl false ((nc_ge (by omega) (by decide)).trans (decide_eq_false (by omega))) ?_
    refine eR.step 5 (F' := (24, [(0, .ref 7), (1, .int (nI (c))), (2, .int (nI (i)))], [.int (nI (i)), .int (nI 3), .ref 4])) (h' := (Gc L xs A B U V S d X)) (fun _ _ => rfl) ?_
    refine eR.call (k' := 15) (as := [.ref 4, .int (nI 3), .int (nI (i))]) (rest := []) (v := some (.int (nI (bi (bt d 3 i))))) (h1 := (Gc L xs A B U V S d X)) rfl rfl rfl rfl (eg (Nat.le_of_ble_eq_true rfl) (show 23 ≤ lo by omega) (Nat.le_of_ble_eq_true rfl)) (c_hasBit hd (by decide) (by omega)) ?_
    by_cases hb : bt d 3 i = true
    · refine eR.ifc rfl true ((nc_ne (b := 0) (by rw [bi_t hb]; decide) (by decide)).trans (decide_eq_true (by rw [bi_t hb]; decide))) ?_
      refine eR.step 1 (F' := (36, [(0, .ref 7), (1, .int (nI (c))), (2, .int (nI (i) + 1))], [])) (h' := (Gc L xs A B U V S d X)) (fun _ _ => rfl) ?_
      rw [show nI (i) + 1 = nI (i + 1) from nI_add (i) 1]
      refine eR.step 1 (F' := (7, [(0, .ref 7), (1, .int (nI (c))), (2, .int (nI (i + 1)))], [])) (h' := (Gc L xs A B U V S d X)) (fun _ _ => rfl) ?_
      have h := l_left_7 hlo hd q (i + 1) c (by omega) (by omega) (cm := cm) (sm := sm) (fr := fr) (L := L) (xs := xs) (A := A) (B := B) (U := U) (V := V) (S := S) (X := X)
      unfold cf
      rw [if_pos hb, Nat.zero_add]
      exact h
    · refine eR.ifc rfl false ((nc_ne (b := 0) (by rw [bi_f hb]; decide) (by decide)).trans (decide_eq_false (by rw [bi_f hb]; decide))) ?_
      refine eR.step 1 (F' := (33, [(0, .ref 7), (1, .int (nI (c) + 1)), (2, .int (nI (i)))], [])) (h' := (Gc L xs A B U V S d X)) (fun _ _ => rfl) ?_
      rw [show nI (c) + 1 = nI (c + 1) from nI_add (c) 1]
      refine eR.step 1 (F' := (36, [(0, .ref 7), (1, .int (nI (c + 1))), (2, .int (nI (i) + 1))], [])) (h' := (Gc L xs A B U V S d X)) (fun _ _ => rfl) ?_
      rw [show nI (i) + 1 = nI (i + 1) from nI_add (i) 1]
      refine eR.step 1 (F' := (7, [(0, .ref 7), (1, .int (nI (c + 1))), (2, .int (nI (i + 1)))], [])) (h' := (Gc L xs A B U V S d X)) (fun _ _ => rfl) ?_
      have h := l_left_7 hlo hd q (i + 1) (c + 1) (by omega) (by omega) (cm := cm) (sm := sm) (fr := fr) (L := L) (xs := xs) (A := A) (B := B) (U := U) (V := V) (S := S) (X := X)
      unfold cf
      rw [if_neg hb, ← Nat.add_assoc]
      exact h
theorem c_left_7 {cm sm fr lo L : Nat} {xs : Nat → Int32} {A B : gT} {U V : gU} {S : gS} {d : Nat → Nat} {X : mj_H} (hlo : 23 ≤ lo) (hd : dk d) : eE mm_P cm sm (fr + 2) lo 62 [.ref 7] (Gc L xs A B U V S d X) (.inl (some (.int (nI (cf d 3 9 55)))), Gc L xs A B U V S d X) := by
  refine eE.of ?_
  refine eR.step 5 (F' := (7, [(0, .ref 7), (1, .int (nI 0)), (2, .int (nI 9))], [])) (h' := (Gc L xs A B U V S d X)) (fun _ _ => rfl) ?_
  have h := l_left_7 hlo hd 55 9 0 (by decide) (by decide) (cm := cm) (sm := sm) (fr := fr) (L := L) (xs := xs) (A := A) (B := B) (U := U) (V := V) (S := S) (X := X)
  rw [Nat.zero_add] at h
  exact h
theorem l_take_7 {cm sm fr lo L : Nat} {xs : Nat → Int32} {A B : gT} {U V : gU} {S : gS} {d : Nat → Nat} {X : mj_H} (hlo : 23 ≤ lo) (hd : dk d) : ∀ q i : Nat, 0 < i → i + q = 64 → eR mm_P cm sm (fr + 1) lo 14 (5, [(0, .ref 7), (1, .int (nI i))], []) (Gc L xs A B U V S d X) (.inl (some (.int (nI (lw d 3 i q)))), Gc L xs A B U V S (tk d 3 (lw d 3 i q)) X)
  | 0, i, h0, hm => by
    refine eR.step 3 (F' := (10, [(0, .ref 7), (1, .int (nI (i)))], [.int (nI 64), .int (nI (i))])) (h' := (Gc L xs A B U V S d X)) (fun _ _ => rfl) ?_
    refine eR.icmp rfl true ((nc_ge (by omega) (by decide)).trans (decide_eq_true (by omega))) ?_
    refine eR.step 1 (F' := (49, [(0, .ref 7), (1, .int (nI (i)))], [.int (nI 0)])) (h' := (Gc L xs A B U V S d X)) (fun _ _ => rfl) ?_
    exact eR.ret rfl rfl rfl
  | q + 1, i, h0, hm => by
    refine eR.step 3 (F' := (10, [(0, .ref 7), (1, .int (nI (i)))], [.int (nI 64), .int (nI (i))])) (h' := (Gc L xs A B U V S d X)) (fun _ _ => rfl) ?_
    refine eR.icmp rfl false ((nc_ge (by omega) (by decide)).trans (decide_eq_false (by omega))) ?_
    refine eR.step 5 (F' := (22, [(0, .ref 7), (1, .int (nI (i)))], [.int (nI (i)), .int (nI 3), .ref 4])) (h' := (Gc L xs A B U V S d X)) (fun _ _ => rfl) ?_
    refine eR.call (k' := 15) (as := [.ref 4, .int (nI 3), .int (nI (i))]) (rest := []) (v := some (.int (nI (bi (bt d 3 i))))) (h1 := (Gc L xs A B U V S d X)) rfl rfl rfl rfl (eg (Nat.le_of_ble_eq_true rfl) (show 23 ≤ lo by omega) (Nat.le_of_ble_eq_true rfl)) (c_hasBit hd (by decide) (by omega)) ?_
    by_cases hb : bt d 3 i = true
    · refine eR.ifc rfl true ((nc_ne (b := 0) (by rw [bi_t hb]; decide) (by decide)).trans (decide_eq_true (by rw [bi_t hb]; decide))) ?_
      refine eR.step 1 (F' := (45, [(0, .ref 7), (1, .int (nI (i) + 1))], [])) (h' := (Gc L xs A B U V S d X)) (fun _ _ => rfl) ?_
      rw [show nI (i) + 1 = nI (i + 1) from nI_add (i) 1]
      refine eR.step 1 (F' := (5, [(0, .ref 7), (1, .int (nI (i + 1)))], [])) (h' := (Gc L xs A B U V S d X)) (fun _ _ => rfl) ?_
      have h := l_take_7 hlo hd q (i + 1) (by omega) (by omega) (cm := cm) (sm := sm) (fr := fr) (L := L) (xs := xs) (A := A) (B := B) (U := U) (V := V) (S := S) (X := X)
      unfold lw
      rw [if_pos hb]
      exact h
    · unfold lw
      rw [if_neg hb]
      unfold tk
      rw [if_neg (by omega)]
      refine eR.ifc rfl false ((nc_ne (b := 0) (by rw [bi_f hb]; decide) (by decide)).trans (decide_eq_false (by rw [bi_f hb]; decide))) ?_
      refine eR.step 5 (F' := (37, [(0, .ref 7), (1, .int (nI (i)))], [.int (nI (i)), .int (nI 3), .ref 4])) (h' := (Gc L xs A B U V S d X)) (fun _ _ => rfl) ?_
      refine eR.call (k' := 12) (as := [.ref 4, .int (nI 3), .int (nI (i))]) (rest := []) (v := none) (h1 := (Gc L xs A B U V S (tb d 3 i) X)) rfl rfl rfl rfl (eg (Nat.le_of_ble_eq_true rfl) (show 23 ≤ lo by omega) (Nat.le_of_ble_eq_true rfl)) (c_turnBit hd (by decide) (by omega)) ?_
      refine eR.step 1 (F' := (41, [(0, .ref 7), (1, .int (nI (i)))], [.int (nI (i))])) (h' := (Gc L xs A B U V S (tb d 3 i) X)) (fun _ _ => rfl) ?_
      exact eR.ret rfl rfl rfl
theorem c_take_7 {cm sm fr lo L : Nat} {xs : Nat → Int32} {A B : gT} {U V : gU} {S : gS} {d : Nat → Nat} {X : mj_H} (hlo : 23 ≤ lo) (hd : dk d) : eE mm_P cm sm (fr + 2) lo 14 [.ref 7] (Gc L xs A B U V S d X) (.inl (some (.int (nI (lw d 3 9 55)))), Gc L xs A B U V S (tk d 3 (lw d 3 9 55)) X) := by
  refine eE.of ?_
  refine eR.step 3 (F' := (5, [(0, .ref 7), (1, .int (nI 9))], [])) (h' := (Gc L xs A B U V S d X)) (fun _ _ => rfl) ?_
  exact l_take_7 hlo hd 55 9 (by decide) (by decide)
/-- what giving back leaves -/
def gb_7 (d : Nat → Nat) (i : Nat) : Nat → Nat := if (9 ≤ i ∧ i < 64) ∧ bt d 3 i = true then tb d 3 i else d
theorem c_give_7 {cm sm fr lo L : Nat} {xs : Nat → Int32} {A B : gT} {U V : gU} {S : gS} {d : Nat → Nat} {X : mj_H} (hlo : 23 ≤ lo) (hd : dk d) {i : Nat} (hi : i < 2 ^ 30) : eE mm_P cm sm (fr + 2) lo 90 [.ref 7, .int (nI (i))] (Gc L xs A B U V S d X) (.inl (none), Gc L xs A B U V S (gb_7 d i) X) := by
  refine eE.of ?_
  refine eR.step 2 (F' := (2, [(0, .ref 7), (1, .int (nI (i)))], [.int (nI (i)), .ref 7])) (h' := (Gc L xs A B U V S d X)) (fun _ _ => rfl) ?_
  refine eR.call (k' := 38) (as := [.ref 7, .int (nI (i))]) (rest := []) (v := some (.int (nI (bi (decide (9 ≤ i ∧ i < 64)))))) (h1 := (Gc L xs A B U V S d X)) rfl rfl rfl rfl (eg (Nat.le_of_ble_eq_true rfl) (show 21 ≤ lo by omega) (Nat.le_of_ble_eq_true rfl)) (c_can_7 (by omega)) ?_
  by_cases hc : 9 ≤ i ∧ i < 64
  · refine eR.ifc rfl false ((nc_eq (b := 0) (by rw [decide_eq_true hc]; decide) (by decide)).trans (decide_eq_false (by rw [decide_eq_true hc]; decide))) ?_
    refine eR.step 5 (F' := (17, [(0, .ref 7), (1, .int (nI (i)))], [.int (nI (i)), .int (nI 3), .ref 4])) (h' := (Gc L xs A B U V S d X)) (fun _ _ => rfl) ?_
    refine eR.call (k' := 15) (as := [.ref 4, .int (nI 3), .int (nI (i))]) (rest := []) (v := some (.int (nI (bi (bt d 3 i))))) (h1 := (Gc L xs A B U V S d X)) rfl rfl rfl rfl (eg (Nat.le_of_ble_eq_true rfl) (show 23 ≤ lo by omega) (Nat.le_of_ble_eq_true rfl)) (c_hasBit hd (by decide) (by omega)) ?_
    by_cases hb : bt d 3 i = true
    · unfold gb_7
      rw [if_pos ⟨hc, hb⟩]
      refine eR.ifc rfl false ((nc_eq (b := 0) (by rw [bi_t hb]; decide) (by decide)).trans (decide_eq_false (by rw [bi_t hb]; decide))) ?_
      refine eR.step 5 (F' := (32, [(0, .ref 7), (1, .int (nI (i)))], [.int (nI (i)), .int (nI 3), .ref 4])) (h' := (Gc L xs A B U V S d X)) (fun _ _ => rfl) ?_
      refine eR.call (k' := 12) (as := [.ref 4, .int (nI 3), .int (nI (i))]) (rest := []) (v := none) (h1 := (Gc L xs A B U V S (tb d 3 i) X)) rfl rfl rfl rfl (eg (Nat.le_of_ble_eq_true rfl) (show 23 ≤ lo by omega) (Nat.le_of_ble_eq_true rfl)) (c_turnBit hd (by decide) (by omega)) ?_
      exact eR.ret rfl rfl rfl
    · unfold gb_7
      rw [if_neg (fun z => hb z.2)]
      refine eR.ifc rfl true ((nc_eq (b := 0) (by rw [bi_f hb]; decide) (by decide)).trans (decide_eq_true (by rw [bi_f hb]))) ?_
      exact eR.ret rfl rfl rfl
  · unfold gb_7
    rw [if_neg (fun z => hc z.1)]
    refine eR.ifc rfl true ((nc_eq (b := 0) (by rw [decide_eq_false hc]; decide) (by decide)).trans (decide_eq_true (by rw [decide_eq_false hc]; rfl))) ?_
    exact eR.ret rfl rfl rfl

