def hm (d : Nat → Nat) (v : Nat) : Nat → Nat → Nat
  | _, 0 => 0
  | j, n + 1 => (if d (32 + (16 * j)) = v then 1 else 0) + hm d v (j + 1) n
theorem l_howMany {cm sm fr lo L : Nat} {xs : Nat → Int32} {A B : gT} {U V : gU} {S : gS} {d : Nat → Nat} {X : mj_H} (hlo : 42 ≤ lo) (hd : dk d) {v : Nat} (hv : v < 2 ^ 20) : ∀ q j c : Nat, j + q = 16 → c + q ≤ 16 → eR mm_P cm sm (fr + 2) lo 94 (4, [(0, .ref 8), (1, .int (nI v)), (2, .int (nI c)), (3, .int (nI j))], []) (Gc L xs A B U V S d X) (.inl (some (.int (nI (c + hm d v j q)))), Gc L xs A B U V S d X)
  | 0, j, c, hm, hc => by
    show eR _ _ _ _ _ _ _ _ (.inl (some (.int (nI c))), _)
    refine eR.step 2 (F' := (7, [(0, .ref 8), (1, .int (nI (v))), (2, .int (nI (c))), (3, .int (nI (j)))], [.int (nI 16), .int (nI (j))])) (h' := (Gc L xs A B U V S d X)) (fun _ _ => rfl) ?_
    refine eR.icmp rfl true ((nc_ge (by omega) (by decide)).trans (decide_eq_true (by omega))) ?_
    refine eR.step 1 (F' := (29, [(0, .ref 8), (1, .int (nI (v))), (2, .int (nI (c))), (3, .int (nI (j)))], [.int (nI (c))])) (h' := (Gc L xs A B U V S d X)) (fun _ _ => rfl) ?_
    exact eR.ret rfl rfl rfl
  | q + 1, j, c, hj, hc => by
    have hb := hd.1 (32 + (16 * j))
    refine eR.step 2 (F' := (7, [(0, .ref 8), (1, .int (nI (v))), (2, .int (nI (c))), (3, .int (nI (j)))], [.int (nI 16), .int (nI (j))])) (h' := (Gc L xs A B U V S d X)) (fun _ _ => rfl) ?_
    refine eR.icmp rfl false ((nc_ge (by omega) (by decide)).trans (decide_eq_false (by omega))) ?_
    refine eR.step 2 (F' := (12, [(0, .ref 8), (1, .int (nI (v))), (2, .int (nI (c))), (3, .int (nI (j)))], [.int (nI (j)), .ref 8])) (h' := (Gc L xs A B U V S d X)) (fun _ _ => rfl) ?_
    refine eR.call (k' := 41) (as := [.ref 8, .int (nI (j))]) (rest := []) (v := some (.int (nI (d (32 + (16 * j)))))) (h1 := (Gc L xs A B U V S d X)) rfl rfl rfl rfl (eg (Nat.le_of_ble_eq_true rfl) (show 21 ≤ lo by omega) (Nat.le_of_ble_eq_true rfl)) (c_kind (show 21 ≤ lo - 21 by omega) hd (by omega)) ?_
    refine eR.step 1 (F' := (16, [(0, .ref 8), (1, .int (nI (v))), (2, .int (nI (c))), (3, .int (nI (j)))], [.int (nI (v)), .int (nI (d (32 + (16 * j))))])) (h' := (Gc L xs A B U V S d X)) (fun _ _ => rfl) ?_
    by_cases hk : d (32 + (16 * j)) = v
    · refine eR.icmp rfl false ((nc_ne (by omega) (by omega)).trans (decide_eq_false (by omega))) ?_
      refine eR.step 1 (F' := (22, [(0, .ref 8), (1, .int (nI (v))), (2, .int (nI (c) + 1)), (3, .int (nI (j)))], [])) (h' := (Gc L xs A B U V S d X)) (fun _ _ => rfl) ?_
      rw [show nI (c) + 1 = nI (c + 1) from nI_add (c) 1]
      refine eR.step 1 (F' := (25, [(0, .ref 8), (1, .int (nI (v))), (2, .int (nI (c + 1))), (3, .int (nI (j) + 1))], [])) (h' := (Gc L xs A B U V S d X)) (fun _ _ => rfl) ?_
      rw [show nI (j) + 1 = nI (j + 1) from nI_add (j) 1]
      refine eR.step 1 (F' := (4, [(0, .ref 8), (1, .int (nI (v))), (2, .int (nI (c + 1))), (3, .int (nI (j + 1)))], [])) (h' := (Gc L xs A B U V S d X)) (fun _ _ => rfl) ?_
      have h := l_howMany hlo hd hv q (j + 1) (c + 1) (by omega) (by omega) (cm := cm) (sm := sm) (fr := fr) (L := L) (xs := xs) (A := A) (B := B) (U := U) (V := V) (S := S) (X := X)
      unfold hm
      rw [if_pos hk, ← Nat.add_assoc]
      exact h
    · refine eR.icmp rfl true ((nc_ne (by omega) (by omega)).trans (decide_eq_true (by omega))) ?_
      refine eR.step 1 (F' := (25, [(0, .ref 8), (1, .int (nI (v))), (2, .int (nI (c))), (3, .int (nI (j) + 1))], [])) (h' := (Gc L xs A B U V S d X)) (fun _ _ => rfl) ?_
      rw [show nI (j) + 1 = nI (j + 1) from nI_add (j) 1]
      refine eR.step 1 (F' := (4, [(0, .ref 8), (1, .int (nI (v))), (2, .int (nI (c))), (3, .int (nI (j + 1)))], [])) (h' := (Gc L xs A B U V S d X)) (fun _ _ => rfl) ?_
      have h := l_howMany hlo hd hv q (j + 1) c (by omega) (by omega) (cm := cm) (sm := sm) (fr := fr) (L := L) (xs := xs) (A := A) (B := B) (U := U) (V := V) (S := S) (X := X)
      unfold hm
      rw [if_neg hk, Nat.zero_add]
      exact h
theorem c_howMany {cm sm fr lo L : Nat} {xs : Nat → Int32} {A B : gT} {U V : gU} {S : gS} {d : Nat → Nat} {X : mj_H} (hlo : 42 ≤ lo) (hd : dk d) {v : Nat} (hv : v < 2 ^ 20) : eE mm_P cm sm (fr + 3) lo 94 [.ref 8, .int (nI (v))] (Gc L xs A B U V S d X) (.inl (some (.int (nI (hm d v 1 15)))), Gc L xs A B U V S d X) := by
  refine eE.of ?_
  refine eR.step 4 (F' := (4, [(0, .ref 8), (1, .int (nI (v))), (2, .int (nI 0)), (3, .int (nI 1))], [])) (h' := (Gc L xs A B U V S d X)) (fun _ _ => rfl) ?_
  have h := l_howMany hlo hd hv 15 1 0 (by decide) (by decide) (cm := cm) (sm := sm) (fr := fr) (L := L) (xs := xs) (A := A) (B := B) (U := U) (V := V) (S := S) (X := X)
  rw [Nat.zero_add] at h
  exact h
/-- how many of n pages from w on have blocks -/
def pg (d : Nat → Nat) (i : Nat) : Nat → Nat → Nat
  | _, 0 => 0
  | w, n + 1 => (if bo d i w = 0 then 0 else 1) + pg d i (w + 1) n
theorem pg_le (d : Nat → Nat) (i : Nat) : ∀ n w, pg d i w n ≤ n
  | 0, _ => Nat.le_refl _
  | n + 1, w => by
    have := pg_le d i n (w + 1)
    unfold pg
    split <;> omega
theorem l_blocks {cm sm fr lo L : Nat} {xs : Nat → Int32} {A B : gT} {U V : gU} {S : gS} {d : Nat → Nat} {X : mj_H} (hlo : 66 ≤ lo) (hd : dk d) {i : Nat} (hi : i < 2 ^ 20) : ∀ q w c : Nat, w + q = 38 → c + q ≤ 50 → eR mm_P cm sm (fr + 3) lo 104 (16, [(0, .ref 8), (1, .int (nI i)), (2, .int (nI c)), (3, .int (nI w))], []) (Gc L xs A B U V S d X) (.inl (some (.int (nI (c + pg d i w q)))), Gc L xs A B U V S d X)
  | 0, w, c, hm, hc => by
    show eR _ _ _ _ _ _ _ _ (.inl (some (.int (nI c))), _)
    refine eR.step 2 (F' := (19, [(0, .ref 8), (1, .int (nI (i))), (2, .int (nI (c))), (3, .int (nI (w)))], [.int (nI 38), .int (nI (w))])) (h' := (Gc L xs A B U V S d X)) (fun _ _ => rfl) ?_
    refine eR.icmp rfl true ((nc_ge (by omega) (by decide)).trans (decide_eq_true (by omega))) ?_
    refine eR.step 1 (F' := (41, [(0, .ref 8), (1, .int (nI (i))), (2, .int (nI (c))), (3, .int (nI (w)))], [.int (nI (c))])) (h' := (Gc L xs A B U V S d X)) (fun _ _ => rfl) ?_
    exact eR.ret rfl rfl rfl
  | q + 1, w, c, hm, hc => by
    have hb := bo_lt hd i w
    refine eR.step 2 (F' := (19, [(0, .ref 8), (1, .int (nI (i))), (2, .int (nI (c))), (3, .int (nI (w)))], [.int (nI 38), .int (nI (w))])) (h' := (Gc L xs A B U V S d X)) (fun _ _ => rfl) ?_
    refine eR.icmp rfl false ((nc_ge (by omega) (by decide)).trans (decide_eq_false (by omega))) ?_
    refine eR.step 3 (F' := (25, [(0, .ref 8), (1, .int (nI (i))), (2, .int (nI (c))), (3, .int (nI (w)))], [.int (nI (w)), .int (nI (i)), .ref 8])) (h' := (Gc L xs A B U V S d X)) (fun _ _ => rfl) ?_
    refine eR.call (k' := 48) (as := [.ref 8, .int (nI (i)), .int (nI (w))]) (rest := []) (v := some (.int (nI (bo d i w)))) (h1 := (Gc L xs A B U V S d X)) rfl rfl rfl rfl (eg (Nat.le_of_ble_eq_true rfl) (show 22 ≤ lo by omega) (Nat.le_of_ble_eq_true rfl)) (c_blockOf (show 44 ≤ lo - 22 by omega) hd hi (by omega)) ?_
    by_cases hk : bo d i w = 0
    · refine eR.ifc rfl true ((nc_eq (b := 0) (by omega) (by decide)).trans (decide_eq_true (by omega))) ?_
      refine eR.step 1 (F' := (37, [(0, .ref 8), (1, .int (nI (i))), (2, .int (nI (c))), (3, .int (nI (w) + 1))], [])) (h' := (Gc L xs A B U V S d X)) (fun _ _ => rfl) ?_
      rw [show nI (w) + 1 = nI (w + 1) from nI_add (w) 1]
      refine eR.step 1 (F' := (16, [(0, .ref 8), (1, .int (nI (i))), (2, .int (nI (c))), (3, .int (nI (w + 1)))], [])) (h' := (Gc L xs A B U V S d X)) (fun _ _ => rfl) ?_
      have h := l_blocks hlo hd hi q (w + 1) c (by omega) (by omega) (cm := cm) (sm := sm) (fr := fr) (L := L) (xs := xs) (A := A) (B := B) (U := U) (V := V) (S := S) (X := X)
      unfold pg
      rw [if_pos hk, Nat.zero_add]
      exact h
    · refine eR.ifc rfl false ((nc_eq (b := 0) (by omega) (by decide)).trans (decide_eq_false (by omega))) ?_
      refine eR.step 1 (F' := (34, [(0, .ref 8), (1, .int (nI (i))), (2, .int (nI (c) + 1)), (3, .int (nI (w)))], [])) (h' := (Gc L xs A B U V S d X)) (fun _ _ => rfl) ?_
      rw [show nI (c) + 1 = nI (c + 1) from nI_add (c) 1]
      refine eR.step 1 (F' := (37, [(0, .ref 8), (1, .int (nI (i))), (2, .int (nI (c + 1))), (3, .int (nI (w) + 1))], [])) (h' := (Gc L xs A B U V S d X)) (fun _ _ => rfl) ?_
      rw [show nI (w) + 1 = nI (w + 1) from nI_add (w) 1]
      refine eR.step 1 (F' := (16, [(0, .ref 8), (1, .int (nI (i))), (2, .int (nI (c + 1))), (3, .int (nI (w + 1)))], [])) (h' := (Gc L xs A B U V S d X)) (fun _ _ => rfl) ?_
      have h := l_blocks hlo hd hi q (w + 1) (c + 1) (by omega) (by omega) (cm := cm) (sm := sm) (fr := fr) (L := L) (xs := xs) (A := A) (B := B) (U := U) (V := V) (S := S) (X := X)
      unfold pg
      rw [if_neg hk, ← Nat.add_assoc]
      exact h
theorem c_blocks {cm sm fr lo L : Nat} {xs : Nat → Int32} {A B : gT} {U V : gU} {S : gS} {d : Nat → Nat} {X : mj_H} (hlo : 66 ≤ lo) (hd : dk d) {i : Nat} (hi : i < 2 ^ 20) : eE mm_P cm sm (fr + 4) lo 104 [.ref 8, .int (nI (i))] (Gc L xs A B U V S d X) (.inl (some (.int (nI ((if d (32 + (16 * i) + 10) = 0 then 0 else 1) + pg d i 0 38)))), Gc L xs A B U V S d X) := by
  refine eE.of ?_
  refine eR.step 2 (F' := (2, [(0, .ref 8), (1, .int (nI (i)))], [.int (nI (i)), .ref 8])) (h' := (Gc L xs A B U V S d X)) (fun _ _ => rfl) ?_
  refine eR.call (k' := 19) (as := [.ref 8, .int (nI (i))]) (rest := []) (v := some (.int (nI (d (32 + (16 * i) + 10))))) (h1 := (Gc L xs A B U V S d X)) rfl rfl rfl rfl (eg (Nat.le_of_ble_eq_true rfl) (show 21 ≤ lo by omega) (Nat.le_of_ble_eq_true rfl)) (c_indirect (show 21 ≤ lo - 21 by omega) hd hi) ?_
  have hb := hd.1 (32 + (16 * i) + 10)
  by_cases h0 : d (32 + (16 * i) + 10) = 0
  · rw [if_pos h0]
    refine eR.ifc rfl false ((nc_ne (b := 0) (by omega) (by decide)).trans (decide_eq_false (by omega))) ?_
    refine eR.step 5 (F' := (16, [(0, .ref 8), (1, .int (nI (i))), (2, .int (nI 0)), (3, .int (nI 0))], [])) (h' := (Gc L xs A B U V S d X)) (fun _ _ => rfl) ?_
    exact l_blocks hlo hd hi 38 0 0 (by decide) (by decide)
  · rw [if_neg h0]
    refine eR.ifc rfl true ((nc_ne (b := 0) (by omega) (by decide)).trans (decide_eq_true (by omega))) ?_
    refine eR.step 4 (F' := (16, [(0, .ref 8), (1, .int (nI (i))), (2, .int (nI 1)), (3, .int (nI 0))], [])) (h' := (Gc L xs A B U V S d X)) (fun _ _ => rfl) ?_
    exact l_blocks hlo hd hi 38 0 1 (by decide) (by decide)
/-- how many of n pages from w on are holes -/
def ho (d : Nat → Nat) (i : Nat) : Nat → Nat → Nat
  | _, 0 => 0
  | w, n + 1 => (if bo d i w = 0 then 1 else 0) + ho d i (w + 1) n
theorem l_wanted {cm sm fr lo L : Nat} {xs : Nat → Int32} {A B : gT} {U V : gU} {S : gS} {d : Nat → Nat} {X : mj_H} (hlo : 66 ≤ lo) (hd : dk d) {i u v : Nat} (hi : i < 2 ^ 20) (hv : v < 2 ^ 19) : ∀ q w c : Nat, w + q = v + 1 → c + q < 2 ^ 20 → eR mm_P cm sm (fr + 3) lo 78 (24, [(0, .ref 8), (1, .int (nI i)), (2, .int (nI u)), (3, .int (nI v)), (4, .int (nI c)), (5, .int (nI w))], []) (Gc L xs A B U V S d X) (.inl (some (.int (nI (c + ho d i w q)))), Gc L xs A B U V S d X)
  | 0, w, c, hm, hc => by
    show eR _ _ _ _ _ _ _ _ (.inl (some (.int (nI c))), _)
    refine eR.step 2 (F' := (27, [(0, .ref 8), (1, .int (nI (i))), (2, .int (nI (u))), (3, .int (nI (v))), (4, .int (nI (c))), (5, .int (nI (w)))], [.int (nI (v)), .int (nI (w))])) (h' := (Gc L xs A B U V S d X)) (fun _ _ => rfl) ?_
    refine eR.icmp rfl true ((nc_gt (by omega) (by omega)).trans (decide_eq_true (by omega))) ?_
    refine eR.step 1 (F' := (51, [(0, .ref 8), (1, .int (nI (i))), (2, .int (nI (u))), (3, .int (nI (v))), (4, .int (nI (c))), (5, .int (nI (w)))], [.int (nI (c))])) (h' := (Gc L xs A B U V S d X)) (fun _ _ => rfl) ?_
    exact eR.ret rfl rfl rfl
  | q + 1, w, c, hm, hc => by
    have hb := bo_lt hd i w
    refine eR.step 2 (F' := (27, [(0, .ref 8), (1, .int (nI (i))), (2, .int (nI (u))), (3, .int (nI (v))), (4, .int (nI (c))), (5, .int (nI (w)))], [.int (nI (v)), .int (nI (w))])) (h' := (Gc L xs A B U V S d X)) (fun _ _ => rfl) ?_
    refine eR.icmp rfl false ((nc_gt (by omega) (by omega)).trans (decide_eq_false (by omega))) ?_
    refine eR.step 3 (F' := (34, [(0, .ref 8), (1, .int (nI (i))), (2, .int (nI (u))), (3, .int (nI (v))), (4, .int (nI (c))), (5, .int (nI (w)))], [.int (nI (w)), .int (nI (i)), .ref 8])) (h' := (Gc L xs A B U V S d X)) (fun _ _ => rfl) ?_
    refine eR.call (k' := 48) (as := [.ref 8, .int (nI (i)), .int (nI (w))]) (rest := []) (v := some (.int (nI (bo d i w)))) (h1 := (Gc L xs A B U V S d X)) rfl rfl rfl rfl (eg (Nat.le_of_ble_eq_true rfl) (show 22 ≤ lo by omega) (Nat.le_of_ble_eq_true rfl)) (c_blockOf (show 44 ≤ lo - 22 by omega) hd hi (by omega)) ?_
    by_cases hk : bo d i w = 0
    · refine eR.ifc rfl false ((nc_ne (b := 0) (by omega) (by decide)).trans (decide_eq_false (by omega))) ?_
      refine eR.step 1 (F' := (43, [(0, .ref 8), (1, .int (nI (i))), (2, .int (nI (u))), (3, .int (nI (v))), (4, .int (nI (c) + 1)), (5, .int (nI (w)))], [])) (h' := (Gc L xs A B U V S d X)) (fun _ _ => rfl) ?_
      rw [show nI (c) + 1 = nI (c + 1) from nI_add (c) 1]
      refine eR.step 1 (F' := (46, [(0, .ref 8), (1, .int (nI (i))), (2, .int (nI (u))), (3, .int (nI (v))), (4, .int (nI (c + 1))), (5, .int (nI (w) + 1))], [])) (h' := (Gc L xs A B U V S d X)) (fun _ _ => rfl) ?_
      rw [show nI (w) + 1 = nI (w + 1) from nI_add (w) 1]
      refine eR.step 1 (F' := (24, [(0, .ref 8), (1, .int (nI (i))), (2, .int (nI (u))), (3, .int (nI (v))), (4, .int (nI (c + 1))), (5, .int (nI (w + 1)))], [])) (h' := (Gc L xs A B U V S d X)) (fun _ _ => rfl) ?_
      have h := l_wanted hlo hd hi hv q (w + 1) (c + 1) (by omega) (by omega) (u := u) (cm := cm) (sm := sm) (fr := fr) (L := L) (xs := xs) (A := A) (B := B) (U := U) (V := V) (S := S) (X := X)
      unfold ho
      rw [if_pos hk, ← Nat.add_assoc]
      exact h
    · refine eR.ifc rfl true ((nc_ne (b := 0) (by omega) (by decide)).trans (decide_eq_true (by omega))) ?_
      refine eR.step 1 (F' := (46, [(0, .ref 8), (1, .int (nI (i))), (2, .int (nI (u))), (3, .int (nI (v))), (4, .int (nI (c))), (5, .int (nI (w) + 1))], [])) (h' := (Gc L xs A B U V S d X)) (fun _ _ => rfl) ?_
      rw [show nI (w) + 1 = nI (w + 1) from nI_add (w) 1]
      refine eR.step 1 (F' := (24, [(0, .ref 8), (1, .int (nI (i))), (2, .int (nI (u))), (3, .int (nI (v))), (4, .int (nI (c))), (5, .int (nI (w + 1)))], [])) (h' := (Gc L xs A B U V S d X)) (fun _ _ => rfl) ?_
      have h := l_wanted hlo hd hi hv q (w + 1) c (by omega) (by omega) (u := u) (cm := cm) (sm := sm) (fr := fr) (L := L) (xs := xs) (A := A) (B := B) (U := U) (V := V) (S := S) (X := X)
      unfold ho
      rw [if_neg hk, Nat.zero_add]
      exact h
def bw (d : Nat → Nat) (i u v : Nat) : Nat := (if 6 ≤ v ∧ d (32 + (16 * i) + 10) = 0 then 1 else 0) + ho d i u (v + 1 - u)
theorem c_wanted {cm sm fr lo L : Nat} {xs : Nat → Int32} {A B : gT} {U V : gU} {S : gS} {d : Nat → Nat} {X : mj_H} (hlo : 66 ≤ lo) (hd : dk d) {i : Nat} (hi : i < 2 ^ 20) {u v : Nat} (hu : u ≤ v + 1) (hv : v < 2 ^ 19) : eE mm_P cm sm (fr + 4) lo 78 [.ref 8, .int (nI (i)), .int (nI (u)), .int (nI (v))] (Gc L xs A B U V S d X) (.inl (some (.int (nI (bw d i u v)))), Gc L xs A B U V S d X) := by
  unfold bw
  by_cases h6 : v < 6
  · rw [if_neg (by omega)]
    refine eE.of ?_
    refine eR.step 2 (F' := (3, [(0, .ref 8), (1, .int (nI (i))), (2, .int (nI (u))), (3, .int (nI (v)))], [.int (nI 6), .int (nI (v))])) (h' := (Gc L xs A B U V S d X)) (fun _ _ => rfl) ?_
    refine eR.icmp rfl true ((nc_lt (by omega) (by decide)).trans (decide_eq_true (by omega))) ?_
    refine eR.step 4 (F' := (24, [(0, .ref 8), (1, .int (nI (i))), (2, .int (nI (u))), (3, .int (nI (v))), (4, .int (nI 0)), (5, .int (nI (u)))], [])) (h' := (Gc L xs A B U V S d X)) (fun _ _ => rfl) ?_
    exact l_wanted hlo hd hi hv (v + 1 - u) u 0 (by omega) (by omega)
  · refine eE.of ?_
    refine eR.step 2 (F' := (3, [(0, .ref 8), (1, .int (nI (i))), (2, .int (nI (u))), (3, .int (nI (v)))], [.int (nI 6), .int (nI (v))])) (h' := (Gc L xs A B U V S d X)) (fun _ _ => rfl) ?_
    refine eR.icmp rfl false ((nc_lt (by omega) (by decide)).trans (decide_eq_false (by omega))) ?_
    refine eR.step 2 (F' := (8, [(0, .ref 8), (1, .int (nI (i))), (2, .int (nI (u))), (3, .int (nI (v)))], [.int (nI (i)), .ref 8])) (h' := (Gc L xs A B U V S d X)) (fun _ _ => rfl) ?_
    refine eR.call (k' := 19) (as := [.ref 8, .int (nI (i))]) (rest := []) (v := some (.int (nI (d (32 + (16 * i) + 10))))) (h1 := (Gc L xs A B U V S d X)) rfl rfl rfl rfl (eg (Nat.le_of_ble_eq_true rfl) (show 21 ≤ lo by omega) (Nat.le_of_ble_eq_true rfl)) (c_indirect (show 21 ≤ lo - 21 by omega) hd hi) ?_
    have hb := hd.1 (32 + (16 * i) + 10)
    by_cases h0 : d (32 + (16 * i) + 10) = 0
    · rw [if_pos ⟨by omega, h0⟩]
      refine eR.ifc rfl false ((nc_ne (b := 0) (by omega) (by decide)).trans (decide_eq_false (by omega))) ?_
      refine eR.step 5 (F' := (24, [(0, .ref 8), (1, .int (nI (i))), (2, .int (nI (u))), (3, .int (nI (v))), (4, .int (nI 1)), (5, .int (nI (u)))], [])) (h' := (Gc L xs A B U V S d X)) (fun _ _ => rfl) ?_
      exact l_wanted hlo hd hi hv (v + 1 - u) u 1 (by omega) (by omega)
    · rw [if_neg (fun z => h0 z.2)]
      refine eR.ifc rfl true ((nc_ne (b := 0) (by omega) (by decide)).trans (decide_eq_true (by omega))) ?_
      refine eR.step 4 (F' := (24, [(0, .ref 8), (1, .int (nI (i))), (2, .int (nI (u))), (3, .int (nI (v))), (4, .int (nI 0)), (5, .int (nI (u)))], [])) (h' := (Gc L xs A B U V S d X)) (fun _ _ => rfl) ?_
      exact l_wanted hlo hd hi hv (v + 1 - u) u 0 (by omega) (by omega)
/-- whether one of n pages from w on has a block -/
def sp (d : Nat → Nat) (i : Nat) : Nat → Nat → Bool
  | _, 0 => false
  | w, n + 1 => if bo d i w = 0 then sp d i (w + 1) n else true
theorem l_hasInd {cm sm fr lo L : Nat} {xs : Nat → Int32} {A B : gT} {U V : gU} {S : gS} {d : Nat → Nat} {X : mj_H} (hlo : 66 ≤ lo) (hd : dk d) {i : Nat} (hi : i < 2 ^ 20) : ∀ q w : Nat, w + q = 38 → eR mm_P cm sm (fr + 3) lo 91 (3, [(0, .ref 8), (1, .int (nI i)), (2, .int (nI w))], []) (Gc L xs A B U V S d X) (.inl (some (.int (nI (bi (sp d i w q))))), Gc L xs A B U V S d X)
  | 0, w, hm => by
    refine eR.step 2 (F' := (6, [(0, .ref 8), (1, .int (nI (i))), (2, .int (nI (w)))], [.int (nI 38), .int (nI (w))])) (h' := (Gc L xs A B U V S d X)) (fun _ _ => rfl) ?_
    refine eR.icmp rfl true ((nc_ge (by omega) (by decide)).trans (decide_eq_true (by omega))) ?_
    refine eR.step 1 (F' := (27, [(0, .ref 8), (1, .int (nI (i))), (2, .int (nI (w)))], [.int (nI 0)])) (h' := (Gc L xs A B U V S d X)) (fun _ _ => rfl) ?_
    exact eR.ret rfl rfl rfl
  | q + 1, w, hm => by
    have hb := bo_lt hd i w
    unfold sp
    refine eR.step 2 (F' := (6, [(0, .ref 8), (1, .int (nI (i))), (2, .int (nI (w)))], [.int (nI 38), .int (nI (w))])) (h' := (Gc L xs A B U V S d X)) (fun _ _ => rfl) ?_
    refine eR.icmp rfl false ((nc_ge (by omega) (by decide)).trans (decide_eq_false (by omega))) ?_
    refine eR.step 3 (F' := (12, [(0, .ref 8), (1, .int (nI (i))), (2, .int (nI (w)))], [.int (nI (w)), .int (nI (i)), .ref 8])) (h' := (Gc L xs A B U V S d X)) (fun _ _ => rfl) ?_
    refine eR.call (k' := 48) (as := [.ref 8, .int (nI (i)), .int (nI (w))]) (rest := []) (v := some (.int (nI (bo d i w)))) (h1 := (Gc L xs A B U V S d X)) rfl rfl rfl rfl (eg (Nat.le_of_ble_eq_true rfl) (show 22 ≤ lo by omega) (Nat.le_of_ble_eq_true rfl)) (c_blockOf (show 44 ≤ lo - 22 by omega) hd hi (by omega)) ?_
    by_cases hk : bo d i w = 0
    · rw [if_pos hk]
      refine eR.ifc rfl true ((nc_eq (b := 0) (by omega) (by decide)).trans (decide_eq_true (by omega))) ?_
      refine eR.step 1 (F' := (23, [(0, .ref 8), (1, .int (nI (i))), (2, .int (nI (w) + 1))], [])) (h' := (Gc L xs A B U V S d X)) (fun _ _ => rfl) ?_
      rw [show nI (w) + 1 = nI (w + 1) from nI_add (w) 1]
      refine eR.step 1 (F' := (3, [(0, .ref 8), (1, .int (nI (i))), (2, .int (nI (w + 1)))], [])) (h' := (Gc L xs A B U V S d X)) (fun _ _ => rfl) ?_
      exact l_hasInd hlo hd hi q (w + 1) (by omega)
    · rw [if_neg hk]
      refine eR.ifc rfl false ((nc_eq (b := 0) (by omega) (by decide)).trans (decide_eq_false (by omega))) ?_
      refine eR.step 1 (F' := (19, [(0, .ref 8), (1, .int (nI (i))), (2, .int (nI (w)))], [.int (nI 1)])) (h' := (Gc L xs A B U V S d X)) (fun _ _ => rfl) ?_
      exact eR.ret rfl rfl rfl
theorem c_hasInd {cm sm fr lo L : Nat} {xs : Nat → Int32} {A B : gT} {U V : gU} {S : gS} {d : Nat → Nat} {X : mj_H} (hlo : 66 ≤ lo) (hd : dk d) {i : Nat} (hi : i < 2 ^ 20) : eE mm_P cm sm (fr + 4) lo 91 [.ref 8, .int (nI (i))] (Gc L xs A B U V S d X) (.inl (some (.int (nI (bi (sp d i 6 32))))), Gc L xs A B U V S d X) := by
  refine eE.of ?_
  refine eR.step 2 (F' := (3, [(0, .ref 8), (1, .int (nI (i))), (2, .int (nI 6))], [])) (h' := (Gc L xs A B U V S d X)) (fun _ _ => rfl) ?_
  exact l_hasInd hlo hd hi 32 6 (by decide)
def ti (d : Nat → Nat) (v : Nat) : Nat → Nat := if lw d 1 1 15 = 0 then d else dp (tk d 1 (lw d 1 1 15)) (32 + (16 * (lw d 1 1 15))) v
theorem lw_lt (d : Nat → Nat) (a : Nat) : ∀ n i, lw d a i n < i + n ∨ lw d a i n = 0
  | 0, _ => Or.inr rfl
  | n + 1, i => by
    unfold lw
    split
    · rcases lw_lt d a n (i + 1) with h | h
      · exact Or.inl (by omega)
      · exact Or.inr h
    · exact Or.inl (by omega)
theorem tk_0 {d : Nat → Nat} {a j : Nat} (h : j = 0) : tk d a j = d := by
  unfold tk
  rw [if_pos h]
theorem c_take {cm sm fr lo L : Nat} {xs : Nat → Int32} {A B : gT} {U V : gU} {S : gS} {d : Nat → Nat} {X : mj_H} (hlo : 44 ≤ lo) (hd : dk d) {v : Nat} : eE mm_P cm sm (fr + 3) lo 13 [.ref 8, .int (nI (v))] (Gc L xs A B U V S d X) (.inl (some (.int (nI (lw d 1 1 15)))), Gc L xs A B U V S (ti d v) X) := by
  refine eE.of ?_
  refine eR.step 2 (F' := (4, [(0, .ref 8), (1, .int (nI (v)))], [.ref 6])) (h' := (Gc L xs A B U V S d X)) (fun _ _ => rfl) ?_
  refine eR.call (k' := 14) (as := [.ref 6]) (rest := []) (v := some (.int (nI (lw d 1 1 15)))) (h1 := (Gc L xs A B U V S (tk d 1 (lw d 1 1 15)) X)) rfl rfl rfl rfl (eg (Nat.le_of_ble_eq_true rfl) (show 21 ≤ lo by omega) (Nat.le_of_ble_eq_true rfl)) (c_take_6 (show 23 ≤ lo - 21 by omega) hd) ?_
  refine eR.step 2 (F' := (9, [(0, .ref 8), (1, .int (nI (v))), (2, .int (nI (lw d 1 1 15)))], [.int (nI (lw d 1 1 15))])) (h' := (Gc L xs A B U V S (tk d 1 (lw d 1 1 15)) X)) (fun _ _ => rfl) ?_
  have hb := lw_lt d 1 15 1
  unfold ti
  by_cases h0 : lw d 1 1 15 = 0
  · rw [if_pos h0, tk_0 h0]
    refine eR.ifc rfl true ((nc_eq (b := 0) (by omega) (by decide)).trans (decide_eq_true (by omega))) ?_
    refine eR.step 1 (F' := (25, [(0, .ref 8), (1, .int (nI (v))), (2, .int (nI (lw d 1 1 15)))], [.int (nI (lw d 1 1 15))])) (h' := (Gc L xs A B U V S d X)) (fun _ _ => rfl) ?_
    exact eR.ret rfl rfl rfl
  · rw [if_neg h0]
    refine eR.ifc rfl false ((nc_eq (b := 0) (by omega) (by decide)).trans (decide_eq_false (by omega))) ?_
    refine eR.step 3 (F' := (17, [(0, .ref 8), (1, .int (nI (v))), (2, .int (nI (lw d 1 1 15)))], [.int (nI (lw d 1 1 15)), .ref 4])) (h' := (Gc L xs A B U V S (tk d 1 (lw d 1 1 15)) X)) (fun _ _ => rfl) ?_
    refine eR.call (k' := 16) (as := [.int (nI (lw d 1 1 15))]) (rest := [.ref 4]) (v := some (.int (nI (32 + (16 * (lw d 1 1 15)))))) (h1 := (Gc L xs A B U V S (tk d 1 (lw d 1 1 15)) X)) rfl rfl rfl rfl (eg (Nat.le_of_ble_eq_true rfl) (show 20 ≤ lo by omega) (Nat.le_of_ble_eq_true rfl)) (c_start) ?_
    refine eR.step 1 (F' := (21, [(0, .ref 8), (1, .int (nI (v))), (2, .int (nI (lw d 1 1 15)))], [.int (nI (v)), .int (nI (32 + (16 * (lw d 1 1 15)))), .ref 4])) (h' := (Gc L xs A B U V S (tk d 1 (lw d 1 1 15)) X)) (fun _ _ => rfl) ?_
    refine eR.call (k' := 10) (as := [.ref 4, .int (nI (32 + (16 * (lw d 1 1 15)))), .int (nI (v))]) (rest := []) (v := none) (h1 := (Gc L xs A B U V S (dp (tk d 1 (lw d 1 1 15)) (32 + (16 * (lw d 1 1 15))) v) X)) rfl rfl rfl rfl (eg (Nat.le_of_ble_eq_true rfl) (show 22 ≤ lo by omega) (Nat.le_of_ble_eq_true rfl)) (c_put (by omega)) ?_
    refine eR.step 1 (F' := (25, [(0, .ref 8), (1, .int (nI (v))), (2, .int (nI (lw d 1 1 15)))], [.int (nI (lw d 1 1 15))])) (h' := (Gc L xs A B U V S (dp (tk d 1 (lw d 1 1 15)) (32 + (16 * (lw d 1 1 15))) v) X)) (fun _ _ => rfl) ?_
    exact eR.ret rfl rfl rfl
def tB (d : Nat → Nat) : Nat → Nat := if lw d 3 9 55 = 0 then d else cz (tk d 3 (lw d 3 9 55)) ((lw d 3 9 55) * 32) 32
theorem tB_dk {d : Nat → Nat} (h : dk d) : dk (tB d) := by
  unfold tB
  split
  · exact h
  · exact cz_dk (tk_dk h _ _) _ _
theorem ti_dk {d : Nat → Nat} (h : dk d) (v : Nat) : dk (ti d v) := by
  unfold ti
  split
  · exact h
  · exact dp_dk (tk_dk h _ _) _ _
theorem c_takeBlock {cm sm fr lo L : Nat} {xs : Nat → Int32} {A B : gT} {U V : gU} {S : gS} {d : Nat → Nat} {X : mj_H} (hlo : 45 ≤ lo) (hd : dk d) : eE mm_P cm sm (fr + 3) lo 21 [.ref 8] (Gc L xs A B U V S d X) (.inl (some (.int (nI (lw d 3 9 55)))), Gc L xs A B U V S (tB d) X) := by
  refine eE.of ?_
  refine eR.step 2 (F' := (4, [(0, .ref 8)], [.ref 7])) (h' := (Gc L xs A B U V S d X)) (fun _ _ => rfl) ?_
  refine eR.call (k' := 14) (as := [.ref 7]) (rest := []) (v := some (.int (nI (lw d 3 9 55)))) (h1 := (Gc L xs A B U V S (tk d 3 (lw d 3 9 55)) X)) rfl rfl rfl rfl (eg (Nat.le_of_ble_eq_true rfl) (show 21 ≤ lo by omega) (Nat.le_of_ble_eq_true rfl)) (c_take_7 (show 23 ≤ lo - 21 by omega) hd) ?_
  refine eR.step 2 (F' := (9, [(0, .ref 8), (1, .int (nI (lw d 3 9 55)))], [.int (nI (lw d 3 9 55))])) (h' := (Gc L xs A B U V S (tk d 3 (lw d 3 9 55)) X)) (fun _ _ => rfl) ?_
  have hb := lw_lt d 3 55 9
  unfold tB
  by_cases h0 : lw d 3 9 55 = 0
  · rw [if_pos h0, tk_0 h0]
    refine eR.ifc rfl true ((nc_eq (b := 0) (by omega) (by decide)).trans (decide_eq_true (by omega))) ?_
    refine eR.step 1 (F' := (26, [(0, .ref 8), (1, .int (nI (lw d 3 9 55)))], [.int (nI (lw d 3 9 55))])) (h' := (Gc L xs A B U V S d X)) (fun _ _ => rfl) ?_
    exact eR.ret rfl rfl rfl
  · rw [if_neg h0]
    refine eR.ifc rfl false ((nc_eq (b := 0) (by omega) (by decide)).trans (decide_eq_false (by omega))) ?_
    refine eR.step 4 (F' := (19, [(0, .ref 8), (1, .int (nI (lw d 3 9 55)))], [.int (nI 32), .int (nI (lw d 3 9 55)), .ref 4])) (h' := (Gc L xs A B U V S (tk d 3 (lw d 3 9 55)) X)) (fun _ _ => rfl) ?_
    refine eR.nmul rfl ?_
    refine eR.step 1 (F' := (22, [(0, .ref 8), (1, .int (nI (lw d 3 9 55)))], [.int (nI 32), .int (nI ((lw d 3 9 55) * 32)), .ref 4])) (h' := (Gc L xs A B U V S (tk d 3 (lw d 3 9 55)) X)) (fun _ _ => rfl) ?_
    refine eR.call (k' := 9) (as := [.ref 4, .int (nI ((lw d 3 9 55) * 32)), .int (nI 32)]) (rest := []) (v := none) (h1 := (Gc L xs A B U V S (cz (tk d 3 (lw d 3 9 55)) ((lw d 3 9 55) * 32) 32) X)) rfl rfl rfl rfl (eg (Nat.le_of_ble_eq_true rfl) (show 23 ≤ lo by omega) (Nat.le_of_ble_eq_true rfl)) (c_clear (show 22 ≤ lo - 23 by omega) (tk_dk hd _ _) (by omega) (by decide)) ?_
    refine eR.step 1 (F' := (26, [(0, .ref 8), (1, .int (nI (lw d 3 9 55)))], [.int (nI (lw d 3 9 55))])) (h' := (Gc L xs A B U V S (cz (tk d 3 (lw d 3 9 55)) ((lw d 3 9 55) * 32) 32) X)) (fun _ _ => rfl) ?_
    exact eR.ret rfl rfl rfl

