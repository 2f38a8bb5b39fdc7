theorem sI_l (S : gS) (i : Nat) : (sI S i).2.2.1 = S.2.2.1 := by
  unfold sI
  split
  · rfl
  · split <;> rfl
theorem sB_l (S : gS) (b : Nat) : (sB S b).2.2.1 = S.2.2.1 := by
  unfold sB
  split <;> rfl
theorem sBl_l (d : Nat → Nat) (i : Nat) : ∀ (n w : Nat) (S : gS), (sBl d i S w n).2.2.1 = S.2.2.1
  | 0, _, _ => rfl
  | n + 1, w, S => (sBl_l d i n (w + 1) _).trans (sB_l S _)
theorem sk_l (d : Nat → Nat) (i : Nat) (S : gS) : (sk d i S).2.2.1 = S.2.2.1 := (sBl_l d i 38 0 _).trans (sB_l S _)
theorem sJ_l {S : gS} {i b : Nat} (h : ∀ k, k < 16 → S.2.2.1 k ≤ b) : ∀ k, k < 16 → (sJ S i).2.2.1 k ≤ b + 1 := by
  intro k hk
  have h1 := h k hk
  unfold sJ
  split
  · next z =>
    rw [sI_l]
    have h2 := h i z.2
    show ut S.2.2.1 i (S.2.2.1 i + 1) k ≤ b + 1
    unfold ut
    split <;> omega
  · omega
theorem sS_l (d : Nat → Nat) (i : Nat) : ∀ (n j b : Nat) (S : gS), (∀ k, k < 16 → S.2.2.1 k ≤ b) → ∀ k, k < 16 → (sS d i S j n).2.2.1 k ≤ b + n
  | 0, _, _, _, h => h
  | n + 1, j, b, S, h => by
    intro k hk
    have h1 := sS_l d i n (j + 1) (b + 1) _ (sJ_l (i := si d i j) h) k hk
    unfold sS
    omega
theorem sG_l (d : Nat → Nat) (i b : Nat) {S : gS} (h : ∀ k, k < 16 → S.2.2.1 k ≤ b) : ∀ k, k < 16 → (sG d i S).2.2.1 k ≤ b + 24 := by
  intro k hk
  unfold sG
  split
  · have h1 := sS_l d i (sn d i) 0 b (sk d i S) (by rw [sk_l]; exact h) k hk
    have h2 := sn_le d i
    omega
  · rw [sk_l]
    have := h k hk
    omega
theorem sT_l (d : Nat → Nat) : ∀ (n k b : Nat) (S : gS), (∀ k, k < 16 → S.2.2.1 k ≤ b) → ∀ j, j < 16 → (sT d S k n).2.2.1 j ≤ b + 24 * n
  | 0, _, _, _, h => h
  | n + 1, k, b, S, h => by
    intro j hj
    unfold sT
    split
    · have := sT_l d n (k + 1) (b + 24) _ (sG_l d (S.2.2.2.1 k) b h) j hj
      omega
    · have := h j hj
      omega
theorem zn_0 : ∀ (n i : Nat) (s : Nat → Nat) (k : Nat), (k < i → s k = 0) → k < i + n → zn s i n k = 0
  | 0, i, s, k, h, hk => h (by omega)
  | n + 1, i, s, k, h, hk => by
    unfold zn
    refine zn_0 n (i + 1) _ k (fun z => ?_) (by omega)
    unfold ut
    split
    · rfl
    · exact h (by omega)
theorem zb_0 : ∀ (n i : Nat) (s : Nat → Bool) (k : Nat), (k < i → s k = false) → k < i + n → zb s i n k = false
  | 0, i, s, k, h, hk => h (by omega)
  | n + 1, i, s, k, h, hk => by
    unfold zb
    refine zb_0 n (i + 1) _ k (fun z => ?_) (by omega)
    unfold ub
    split
    · rfl
    · exact h (by omega)
theorem sW_l (d : Nat → Nat) (S : gS) : ∀ k, k < 16 → (sW d S).2.2.1 k < 2 ^ 20 := by
  intro k hk
  have := sT_l d 16 0 0 (sI (fg S) 1) (fun j hj => by rw [sI_l]; exact Nat.le_of_eq (zn_0 16 0 _ j (fun z => absurd z (Nat.not_lt_zero _)) (by omega))) k hk
  unfold sW
  omega
theorem c_type {cm sm fr lo L : Nat} {xs : Nat → Int32} {A B : gT} {U V : gU} {S : gS} {d : Nat → Nat} {X : mj_H} (hlo : 21 ≤ lo) (hl : A.2 < 40) {c : Nat} (hc : c < 65536) : eE mm_P cm sm (fr + 2) lo 30 [.ref 3, .int (nI (c))] (Gc L xs A B U V S d X) (.inl (some (.int (nI (A.2 + 1)))), (Gc L xs (ut A.1 A.2 c, A.2 + 1) B U V S d X)) := by
  refine eE.of ?_
  refine eR.step 3 (F' := (5, [(0, .ref 3), (1, .int (nI (c)))], [.int (nI (c)), .ref 15])) (h' := (Gc L xs A B U V S d X)) (fun _ _ => rfl) ?_
  refine eR.call (k' := 31) (as := [.ref 15, .int (nI (c))]) (rest := []) (v := some (.int (nI (A.2 + 1)))) (h1 := (Gc L xs (ut A.1 A.2 c, A.2 + 1) B U V S d X)) rfl rfl rfl rfl (eg (Nat.le_of_ble_eq_true rfl) (show 21 ≤ lo by omega) (Nat.le_of_ble_eq_true rfl)) (c_addP hl hc) ?_
  exact eR.ret rfl rfl rfl
theorem c_typeF {cm sm fr lo L : Nat} {xs : Nat → Int32} {A B : gT} {U V : gU} {S : gS} {d : Nat → Nat} {X : mj_H} (hlo : 21 ≤ lo) (hl : 40 ≤ A.2) (hl2 : A.2 < 2 ^ 20) {c : Nat} : eE mm_P cm sm (fr + 2) lo 30 [.ref 3, .int (nI (c))] (Gc L xs A B U V S d X) (.inl (some (.int (-1))), (Gc L xs A B U V S d X)) := by
  refine eE.of ?_
  refine eR.step 3 (F' := (5, [(0, .ref 3), (1, .int (nI (c)))], [.int (nI (c)), .ref 15])) (h' := (Gc L xs A B U V S d X)) (fun _ _ => rfl) ?_
  refine eR.call (k' := 31) (as := [.ref 15, .int (nI (c))]) (rest := []) (v := some (.int (-1))) (h1 := (Gc L xs A B U V S d X)) rfl rfl rfl rfl (eg (Nat.le_of_ble_eq_true rfl) (show 21 ≤ lo by omega) (Nat.le_of_ble_eq_true rfl)) (c_addF hl hl2) ?_
  exact eR.ret rfl rfl rfl
theorem c_keep {cm sm fr lo L : Nat} {xs : Nat → Int32} {A B : gT} {U V : gU} {S : gS} {d : Nat → Nat} {X : mj_H} (hlo : 22 ≤ lo) (ht : ∀ k, A.1 k < 65536) (hl : A.2 ≤ 40) : eE mm_P cm sm (fr + 2) lo 32 [.ref 3] (Gc L xs A B U V S d X) (.inl (some (.int (nI (A.2)))), (Gc L xs (A.1, 0) (bc A.1 B.1 0 A.2, A.2) U V S d X)) := by
  refine eE.of ?_
  refine eR.step 4 (F' := (8, [(0, .ref 3)], [.ref 15, .ref 17])) (h' := (Gc L xs A B U V S d X)) (fun _ _ => rfl) ?_
  refine eR.call (k' := 33) (as := [.ref 17, .ref 15]) (rest := []) (v := none) (h1 := (Gc L xs A (bc A.1 B.1 0 A.2, A.2) U V S d X)) rfl rfl rfl rfl (eg (Nat.le_of_ble_eq_true rfl) (show 22 ≤ lo by omega) (Nat.le_of_ble_eq_true rfl)) (c_become ht hl) ?_
  refine eR.step 2 (F' := (15, [(0, .ref 3)], [.ref 15])) (h' := (Gc L xs A (bc A.1 B.1 0 A.2, A.2) U V S d X)) (fun _ _ => rfl) ?_
  refine eR.call (k' := 34) (as := [.ref 15]) (rest := []) (v := none) (h1 := (Gc L xs (A.1, 0) (bc A.1 B.1 0 A.2, A.2) U V S d X)) rfl rfl rfl rfl (eg (Nat.le_of_ble_eq_true rfl) (show 20 ≤ lo by omega) (Nat.le_of_ble_eq_true rfl)) (c_emptyP_15) ?_
  refine eR.step 2 (F' := (22, [(0, .ref 3)], [.ref 17])) (h' := (Gc L xs (A.1, 0) (bc A.1 B.1 0 A.2, A.2) U V S d X)) (fun _ _ => rfl) ?_
  refine eR.call (k' := 35) (as := [.ref 17]) (rest := []) (v := some (.int (nI (A.2)))) (h1 := (Gc L xs (A.1, 0) (bc A.1 B.1 0 A.2, A.2) U V S d X)) rfl rfl rfl rfl (eg (Nat.le_of_ble_eq_true rfl) (show 20 ≤ lo by omega) (Nat.le_of_ble_eq_true rfl)) (c_len_17 (B := (bc A.1 B.1 0 A.2, A.2))) ?_
  exact eR.ret rfl rfl rfl
theorem c_takePath_15 {cm sm fr lo L : Nat} {xs : Nat → Int32} {A B : gT} {U V : gU} {S : gS} {d : Nat → Nat} {X : mj_H} (hlo : 112 ≤ lo) (hd : dk d) (ht : ∀ k, A.1 k < 65536) (hl : A.2 ≤ 40) (hn : ∀ k, U.2.2.2 k < 128) : eE mm_P cm sm (fr + 6) lo 64 [.ref 3] (Gc L xs A B U V S d X) (.inl (none), (Gc L xs (A.1, 0) B (fw d A.1 A.2 U) V S d X)) := by
  refine eE.of ?_
  refine eR.step 6 (F' := (12, [(0, .ref 3)], [.ref 19, .ref 15, .ref 9])) (h' := (Gc L xs A B U V S d X)) (fun _ _ => rfl) ?_
  refine eR.call (k' := 65) (as := [.ref 9, .ref 15, .ref 19]) (rest := []) (v := none) (h1 := (Gc L xs A B (fw d A.1 A.2 U) V S d X)) rfl rfl rfl rfl (eg (Nat.le_of_ble_eq_true rfl) (show 23 ≤ lo by omega) (Nat.le_of_ble_eq_true rfl)) (c_follow_15 (show 89 ≤ lo - 23 by omega) hd ht hl hn) ?_
  refine eR.step 2 (F' := (19, [(0, .ref 3)], [.ref 15])) (h' := (Gc L xs A B (fw d A.1 A.2 U) V S d X)) (fun _ _ => rfl) ?_
  refine eR.call (k' := 34) (as := [.ref 15]) (rest := []) (v := none) (h1 := (Gc L xs (A.1, 0) B (fw d A.1 A.2 U) V S d X)) rfl rfl rfl rfl (eg (Nat.le_of_ble_eq_true rfl) (show 20 ≤ lo by omega) (Nat.le_of_ble_eq_true rfl)) (c_emptyP_15) ?_
  exact eR.ret rfl rfl rfl
theorem c_takePath_17 {cm sm fr lo L : Nat} {xs : Nat → Int32} {A B : gT} {U V : gU} {S : gS} {d : Nat → Nat} {X : mj_H} (hlo : 112 ≤ lo) (hd : dk d) (ht : ∀ k, B.1 k < 65536) (hl : B.2 ≤ 40) (hn : ∀ k, V.2.2.2 k < 128) : eE mm_P cm sm (fr + 6) lo 83 [.ref 3] (Gc L xs A B U V S d X) (.inl (none), (Gc L xs A (B.1, 0) U (fw d B.1 B.2 V) S d X)) := by
  refine eE.of ?_
  refine eR.step 6 (F' := (12, [(0, .ref 3)], [.ref 21, .ref 17, .ref 9])) (h' := (Gc L xs A B U V S d X)) (fun _ _ => rfl) ?_
  refine eR.call (k' := 65) (as := [.ref 9, .ref 17, .ref 21]) (rest := []) (v := none) (h1 := (Gc L xs A B U (fw d B.1 B.2 V) S d X)) rfl rfl rfl rfl (eg (Nat.le_of_ble_eq_true rfl) (show 23 ≤ lo by omega) (Nat.le_of_ble_eq_true rfl)) (c_follow_17 (show 89 ≤ lo - 23 by omega) hd ht hl hn) ?_
  refine eR.step 2 (F' := (19, [(0, .ref 3)], [.ref 17])) (h' := (Gc L xs A B U (fw d B.1 B.2 V) S d X)) (fun _ _ => rfl) ?_
  refine eR.call (k' := 34) (as := [.ref 17]) (rest := []) (v := none) (h1 := (Gc L xs A (B.1, 0) U (fw d B.1 B.2 V) S d X)) rfl rfl rfl rfl (eg (Nat.le_of_ble_eq_true rfl) (show 20 ≤ lo by omega) (Nat.le_of_ble_eq_true rfl)) (c_emptyP_17) ?_
  exact eR.ret rfl rfl rfl
theorem c_setClean {cm sm fr lo L : Nat} {xs : Nat → Int32} {A B : gT} {U V : gU} {S : gS} {d : Nat → Nat} {X : mj_H} (hlo : 22 ≤ lo) {b : Bool} : eE mm_P cm sm (fr + 2) lo 29 [.ref 3, .int (nI (bi b))] (Gc L xs A B U V S d X) (.inl (none), (Gc L xs A B U V S (dp d 11 (bi b)) X)) := by
  cases b
  · refine eE.of ?_
    refine eR.step 4 (F' := (7, [(0, .ref 3), (1, .int (nI (bi false)))], [.int (nI (bi false)), .int (nI 11), .ref 4])) (h' := (Gc L xs A B U V S d X)) (fun _ _ => rfl) ?_
    refine eR.ifc rfl true rfl ?_
    refine eR.step 1 (F' := (15, [(0, .ref 3), (1, .int (nI (bi false)))], [.int (nI 0), .int (nI 11), .ref 4])) (h' := (Gc L xs A B U V S d X)) (fun _ _ => rfl) ?_
    refine eR.call (k' := 10) (as := [.ref 4, .int (nI 11), .int (nI 0)]) (rest := []) (v := none) (h1 := (Gc L xs A B U V S (dp d 11 (bi false)) X)) rfl rfl rfl rfl (eg (Nat.le_of_ble_eq_true rfl) (show 22 ≤ lo by omega) (Nat.le_of_ble_eq_true rfl)) (c_put (by decide)) ?_
    exact eR.ret rfl rfl rfl
  · refine eE.of ?_
    refine eR.step 4 (F' := (7, [(0, .ref 3), (1, .int (nI (bi true)))], [.int (nI (bi true)), .int (nI 11), .ref 4])) (h' := (Gc L xs A B U V S d X)) (fun _ _ => rfl) ?_
    refine eR.ifc rfl false rfl ?_
    refine eR.step 2 (F' := (15, [(0, .ref 3), (1, .int (nI (bi true)))], [.int (nI 1), .int (nI 11), .ref 4])) (h' := (Gc L xs A B U V S d X)) (fun _ _ => rfl) ?_
    refine eR.call (k' := 10) (as := [.ref 4, .int (nI 11), .int (nI 1)]) (rest := []) (v := none) (h1 := (Gc L xs A B U V S (dp d 11 (bi true)) X)) rfl rfl rfl rfl (eg (Nat.le_of_ble_eq_true rfl) (show 22 ≤ lo by omega) (Nat.le_of_ble_eq_true rfl)) (c_put (by decide)) ?_
    exact eR.ret rfl rfl rfl
/-- the disk after a check -/
def kd (d : Nat → Nat) (S : gS) (r : Bool) : Nat → Nat := if r = true then dp (wL (sW d S) r (wB 3 (sW d S).2.1 r (wB 1 (sW d S).1 r d 1 15) 9 55) 1 15) 11 1 else (wL (sW d S) r (wB 3 (sW d S).2.1 r (wB 1 (sW d S).1 r d 1 15) 9 55) 1 15)
def kv (d : Nat → Nat) (S : gS) (r : Bool) : Nat := wC 1 (sW d S).1 r d 0 1 15 + wC 3 (sW d S).2.1 r (wB 1 (sW d S).1 r d 1 15) 0 9 55 + wM (sW d S) r (wB 3 (sW d S).2.1 r (wB 1 (sW d S).1 r d 1 15) 9 55) 0 1 15
theorem c_check {cm sm fr lo L : Nat} {xs : Nat → Int32} {A B : gT} {U V : gU} {S : gS} {d : Nat → Nat} {X : mj_H} (hlo : 111 ≤ lo) (hd : dk d) (hs : sv S) {r : Bool} : eE mm_P cm sm (fr + 6) lo 42 [.ref 3, .int (nI (bi r))] (Gc L xs A B U V S d X) (.inl (some (.int (nI (kv d S r)))), (Gc L xs A B U V (sW d S) (kd d S r) X)) := by
  have k1 := wB_dk 1 (sW d S).1 r 15 1 d hd
  have k2 := wB_dk 3 (sW d S).2.1 r 55 9 _ k1
  refine eE.of ?_
  refine eR.step 2 (F' := (4, [(0, .ref 3), (1, .int (nI (bi r)))], [.ref 10])) (h' := (Gc L xs A B U V S d X)) (fun _ _ => rfl) ?_
  refine eR.call (k' := 43) (as := [.ref 10]) (rest := []) (v := none) (h1 := (Gc L xs A B U V (sW d S) d X)) rfl rfl rfl rfl (eg (Nat.le_of_ble_eq_true rfl) (show 21 ≤ lo by omega) (Nat.le_of_ble_eq_true rfl)) (c_goThrough (show 90 ≤ lo - 21 by omega) hd hs) ?_
  refine eR.step 5 (F' := (16, [(0, .ref 3), (1, .int (nI (bi r)))], [.int (nI (bi r)), .ref 6, .ref 10])) (h' := (Gc L xs A B U V (sW d S) d X)) (fun _ _ => rfl) ?_
  refine eR.call (k' := 53) (as := [.ref 10, .ref 6, .int (nI (bi r))]) (rest := []) (v := some (.int (nI (wC 1 (sW d S).1 r d 0 1 15)))) (h1 := (Gc L xs A B U V (sW d S) (wB 1 (sW d S).1 r d 1 15) X)) rfl rfl rfl rfl (eg (Nat.le_of_ble_eq_true rfl) (show 22 ≤ lo by omega) (Nat.le_of_ble_eq_true rfl)) (c_wrong_6 (show 68 ≤ lo - 22 by omega) hd) ?_
  refine eR.step 5 (F' := (28, [(0, .ref 3), (1, .int (nI (bi r)))], [.int (nI (bi r)), .ref 7, .ref 10, .int (nI (wC 1 (sW d S).1 r d 0 1 15))])) (h' := (Gc L xs A B U V (sW d S) (wB 1 (sW d S).1 r d 1 15) X)) (fun _ _ => rfl) ?_
  refine eR.call (k' := 58) (as := [.ref 10, .ref 7, .int (nI (bi r))]) (rest := [.int (nI (wC 1 (sW d S).1 r d 0 1 15))]) (v := some (.int (nI (wC 3 (sW d S).2.1 r (wB 1 (sW d S).1 r d 1 15) 0 9 55)))) (h1 := (Gc L xs A B U V (sW d S) (wB 3 (sW d S).2.1 r (wB 1 (sW d S).1 r d 1 15) 9 55) X)) rfl rfl rfl rfl (eg (Nat.le_of_ble_eq_true rfl) (show 22 ≤ lo by omega) (Nat.le_of_ble_eq_true rfl)) (c_wrong_7 (show 68 ≤ lo - 22 by omega) k1) ?_
  refine eR.nadd rfl ?_
  refine eR.step 3 (F' := (37, [(0, .ref 3), (1, .int (nI (bi r)))], [.int (nI (bi r)), .ref 10, .int (nI ((wC 1 (sW d S).1 r d 0 1 15) + (wC 3 (sW d S).2.1 r (wB 1 (sW d S).1 r d 1 15) 0 9 55)))])) (h' := (Gc L xs A B U V (sW d S) (wB 3 (sW d S).2.1 r (wB 1 (sW d S).1 r d 1 15) 9 55) X)) (fun _ _ => rfl) ?_
  refine eR.call (k' := 59) (as := [.ref 10, .int (nI (bi r))]) (rest := [.int (nI ((wC 1 (sW d S).1 r d 0 1 15) + (wC 3 (sW d S).2.1 r (wB 1 (sW d S).1 r d 1 15) 0 9 55)))]) (v := some (.int (nI (wM (sW d S) r (wB 3 (sW d S).2.1 r (wB 1 (sW d S).1 r d 1 15) 9 55) 0 1 15)))) (h1 := (Gc L xs A B U V (sW d S) (wL (sW d S) r (wB 3 (sW d S).2.1 r (wB 1 (sW d S).1 r d 1 15) 9 55) 1 15) X)) rfl rfl rfl rfl (eg (Nat.le_of_ble_eq_true rfl) (show 23 ≤ lo by omega) (Nat.le_of_ble_eq_true rfl)) (c_wrongLinks (show 44 ≤ lo - 23 by omega) k2 (sW_l d S)) ?_
  refine eR.nadd rfl ?_
  refine eR.step 2 (F' := (43, [(0, .ref 3), (1, .int (nI (bi r))), (2, .int (nI (((wC 1 (sW d S).1 r d 0 1 15) + (wC 3 (sW d S).2.1 r (wB 1 (sW d S).1 r d 1 15) 0 9 55)) + (wM (sW d S) r (wB 3 (sW d S).2.1 r (wB 1 (sW d S).1 r d 1 15) 9 55) 0 1 15))))], [.int (nI (bi r))])) (h' := (Gc L xs A B U V (sW d S) (wL (sW d S) r (wB 3 (sW d S).2.1 r (wB 1 (sW d S).1 r d 1 15) 9 55) 1 15) X)) (fun _ _ => rfl) ?_
  cases r
  · refine eR.ifc rfl true rfl ?_
    refine eR.step 1 (F' := (52, [(0, .ref 3), (1, .int (nI (bi false))), (2, .int (nI (((wC 1 (sW d S).1 false d 0 1 15) + (wC 3 (sW d S).2.1 false (wB 1 (sW d S).1 false d 1 15) 0 9 55)) + (wM (sW d S) false (wB 3 (sW d S).2.1 false (wB 1 (sW d S).1 false d 1 15) 9 55) 0 1 15))))], [.int (nI (((wC 1 (sW d S).1 false d 0 1 15) + (wC 3 (sW d S).2.1 false (wB 1 (sW d S).1 false d 1 15) 0 9 55)) + (wM (sW d S) false (wB 3 (sW d S).2.1 false (wB 1 (sW d S).1 false d 1 15) 9 55) 0 1 15)))])) (h' := (Gc L xs A B U V (sW d S) (wL (sW d S) false (wB 3 (sW d S).2.1 false (wB 1 (sW d S).1 false d 1 15) 9 55) 1 15) X)) (fun _ _ => rfl) ?_
    exact eR.ret rfl rfl rfl
  · refine eR.ifc rfl false rfl ?_
    refine eR.step 2 (F' := (48, [(0, .ref 3), (1, .int (nI (bi true))), (2, .int (nI (((wC 1 (sW d S).1 true d 0 1 15) + (wC 3 (sW d S).2.1 true (wB 1 (sW d S).1 true d 1 15) 0 9 55)) + (wM (sW d S) true (wB 3 (sW d S).2.1 true (wB 1 (sW d S).1 true d 1 15) 9 55) 0 1 15))))], [.int (nI 1), .ref 3])) (h' := (Gc L xs A B U V (sW d S) (wL (sW d S) true (wB 3 (sW d S).2.1 true (wB 1 (sW d S).1 true d 1 15) 9 55) 1 15) X)) (fun _ _ => rfl) ?_
    refine eR.call (k' := 29) (as := [.ref 3, .int (nI 1)]) (rest := []) (v := none) (h1 := (Gc L xs A B U V (sW d S) (dp (wL (sW d S) true (wB 3 (sW d S).2.1 true (wB 1 (sW d S).1 true d 1 15) 9 55) 1 15) 11 1) X)) rfl rfl rfl rfl (eg (Nat.le_of_ble_eq_true rfl) (show 21 ≤ lo by omega) (Nat.le_of_ble_eq_true rfl)) (c_setClean (b := true) (show 22 ≤ lo - 21 by omega)) ?_
    refine eR.step 1 (F' := (52, [(0, .ref 3), (1, .int (nI (bi true))), (2, .int (nI (((wC 1 (sW d S).1 true d 0 1 15) + (wC 3 (sW d S).2.1 true (wB 1 (sW d S).1 true d 1 15) 0 9 55)) + (wM (sW d S) true (wB 3 (sW d S).2.1 true (wB 1 (sW d S).1 true d 1 15) 9 55) 0 1 15))))], [.int (nI (((wC 1 (sW d S).1 true d 0 1 15) + (wC 3 (sW d S).2.1 true (wB 1 (sW d S).1 true d 1 15) 0 9 55)) + (wM (sW d S) true (wB 3 (sW d S).2.1 true (wB 1 (sW d S).1 true d 1 15) 9 55) 0 1 15)))])) (h' := (Gc L xs A B U V (sW d S) (dp (wL (sW d S) true (wB 3 (sW d S).2.1 true (wB 1 (sW d S).1 true d 1 15) 9 55) 1 15) 11 1) X)) (fun _ _ => rfl) ?_
    exact eR.ret rfl rfl rfl
/-- a formatted disk, by and by -/
def f3 (d : Nat → Nat) : Nat → Nat := (ms 3 (ms 1 (dp (cz d 0 2048) 0 77) 0 1) 0 9)
theorem f3_dk {d : Nat → Nat} (h : dk d) : dk (f3 d) := ms_dk 3 9 _ 0 (ms_dk 1 1 _ 0 (dp_dk (cz_dk h _ _) _ _))
def fm (d : Nat → Nat) : Nat → Nat := dp (sd (ti (f3 d) 2) (lw (f3 d) 1 1 15) (lw (f3 d) 1 1 15)) 11 1
theorem c_format {cm sm fr lo L : Nat} {xs : Nat → Int32} {A B : gT} {U V : gU} {S : gS} {d : Nat → Nat} {X : mj_H} (hlo : 114 ≤ lo) (hd : dk d) : eE mm_P cm sm (fr + 6) lo 8 [.ref 3] (Gc L xs A B U V S d X) (.inl (none), (Gc L xs A B U V S (fm d) X)) := by
  have k0 := cz_dk hd 0 2048
  have k1 := dp_dk k0 0 77
  have k2 := ms_dk 1 1 _ 0 k1
  have k3 := f3_dk hd
  have hw : lw (f3 d) 1 1 15 < 2 ^ 20 := by rcases lw_lt (f3 d) 1 15 1 with h | h <;> omega
  refine eE.of ?_
  refine eR.step 4 (F' := (8, [(0, .ref 3)], [.int (nI 2048), .int (nI 0), .ref 4])) (h' := (Gc L xs A B U V S d X)) (fun _ _ => rfl) ?_
  refine eR.call (k' := 9) (as := [.ref 4, .int (nI 0), .int (nI 2048)]) (rest := []) (v := none) (h1 := (Gc L xs A B U V S (cz d 0 2048) X)) rfl rfl rfl rfl (eg (Nat.le_of_ble_eq_true rfl) (show 23 ≤ lo by omega) (Nat.le_of_ble_eq_true rfl)) (c_clear (show 22 ≤ lo - 23 by omega) hd (by decide) (by decide)) ?_
  refine eR.step 4 (F' := (18, [(0, .ref 3)], [.int (nI 77), .int (nI 0), .ref 4])) (h' := (Gc L xs A B U V S (cz d 0 2048) X)) (fun _ _ => rfl) ?_
  refine eR.call (k' := 10) (as := [.ref 4, .int (nI 0), .int (nI 77)]) (rest := []) (v := none) (h1 := (Gc L xs A B U V S (dp (cz d 0 2048) 0 77) X)) rfl rfl rfl rfl (eg (Nat.le_of_ble_eq_true rfl) (show 22 ≤ lo by omega) (Nat.le_of_ble_eq_true rfl)) (c_put (by decide)) ?_
  refine eR.step 2 (F' := (25, [(0, .ref 3)], [.ref 6])) (h' := (Gc L xs A B U V S (dp (cz d 0 2048) 0 77) X)) (fun _ _ => rfl) ?_
  refine eR.call (k' := 11) (as := [.ref 6]) (rest := []) (v := none) (h1 := (Gc L xs A B U V S (ms 1 (dp (cz d 0 2048) 0 77) 0 1) X)) rfl rfl rfl rfl (eg (Nat.le_of_ble_eq_true rfl) (show 21 ≤ lo by omega) (Nat.le_of_ble_eq_true rfl)) (c_startM_6 (show 23 ≤ lo - 21 by omega) k1) ?_
  refine eR.step 2 (F' := (32, [(0, .ref 3)], [.ref 7])) (h' := (Gc L xs A B U V S (ms 1 (dp (cz d 0 2048) 0 77) 0 1) X)) (fun _ _ => rfl) ?_
  refine eR.call (k' := 11) (as := [.ref 7]) (rest := []) (v := none) (h1 := (Gc L xs A B U V S (f3 d) X)) rfl rfl rfl rfl (eg (Nat.le_of_ble_eq_true rfl) (show 21 ≤ lo by omega) (Nat.le_of_ble_eq_true rfl)) (c_startM_7 (show 23 ≤ lo - 21 by omega) k2) ?_
  refine eR.step 3 (F' := (40, [(0, .ref 3)], [.int (nI 2), .ref 8])) (h' := (Gc L xs A B U V S (f3 d) X)) (fun _ _ => rfl) ?_
  refine eR.call (k' := 13) (as := [.ref 8, .int (nI 2)]) (rest := []) (v := some (.int (nI (lw (f3 d) 1 1 15)))) (h1 := (Gc L xs A B U V S (ti (f3 d) 2) X)) rfl rfl rfl rfl (eg (Nat.le_of_ble_eq_true rfl) (show 22 ≤ lo by omega) (Nat.le_of_ble_eq_true rfl)) (c_take (show 44 ≤ lo - 22 by omega) k3) ?_
  refine eR.step 5 (F' := (50, [(0, .ref 3), (1, .int (nI (lw (f3 d) 1 1 15)))], [.int (nI (lw (f3 d) 1 1 15)), .int (nI (lw (f3 d) 1 1 15)), .ref 9])) (h' := (Gc L xs A B U V S (ti (f3 d) 2) X)) (fun _ _ => rfl) ?_
  refine eR.call (k' := 17) (as := [.ref 9, .int (nI (lw (f3 d) 1 1 15)), .int (nI (lw (f3 d) 1 1 15))]) (rest := []) (v := none) (h1 := (Gc L xs A B U V S (sd (ti (f3 d) 2) (lw (f3 d) 1 1 15) (lw (f3 d) 1 1 15)) X)) rfl rfl rfl rfl (eg (Nat.le_of_ble_eq_true rfl) (show 22 ≤ lo by omega) (Nat.le_of_ble_eq_true rfl)) (c_startD (show 92 ≤ lo - 22 by omega) (ti_dk k3 2) hw hw) ?_
  refine eR.step 2 (F' := (55, [(0, .ref 3), (1, .int (nI (lw (f3 d) 1 1 15)))], [.int (nI 1), .ref 3])) (h' := (Gc L xs A B U V S (sd (ti (f3 d) 2) (lw (f3 d) 1 1 15) (lw (f3 d) 1 1 15)) X)) (fun _ _ => rfl) ?_
  refine eR.call (k' := 29) (as := [.ref 3, .int (nI 1)]) (rest := []) (v := none) (h1 := (Gc L xs A B U V S (fm d) X)) rfl rfl rfl rfl (eg (Nat.le_of_ble_eq_true rfl) (show 21 ≤ lo by omega) (Nat.le_of_ble_eq_true rfl)) (c_setClean (b := true) (show 22 ≤ lo - 21 by omega)) ?_
  exact eR.ret rfl rfl rfl

