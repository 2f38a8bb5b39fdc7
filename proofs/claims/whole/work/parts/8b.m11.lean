theorem ki_n {n : Nat} (h : n ≠ 0) (h2 : n < 2 ^ 20) : nI n + Int32.ofInt (-1) = nI (n - 1) := by
  rw [ki_dec n h2]
  cases n with
  | zero => exact absurd rfl h
  | succ n => rfl
theorem tJ_d (d : Nat → Nat) (S : gS) (x : Nat) : tJ d S x = if x = 0 then S else if S.1 x = true then tN d S x else if d (32 + (16 * x)) = 2 then tp (tN d S x) x else tN d S x := rfl
theorem bo_64 {e : Nat → Nat} (B : qB e) {i w : Nat} (hi : i < 16) (hw : w < 38) : bo e i w < 64 := by
  have := B.b1 i w hi (by omega)
  rw [qb_bo _ _ _ hw] at this
  omega
theorem ix_64 {e : Nat → Nat} (B : qB e) {i : Nat} (hi : i < 16) : e (32 + (16 * i) + 10) < 64 := by
  have := B.b1 i 38 hi (by omega)
  rw [qb_ix] at this
  omega
theorem l_note {cm sm fr lo : Nat} {C : gC} {e : Nat → Nat} {P Q : gT} {m : Nat} {N : Nat → Nat} {a : Nat → Bool} {c y : Nat → Nat} {n t : Nat} {Z : mj_H} (hlo : 66 ≤ lo) (B : qB e) {i : Nat} (hi : i < 16) {r : mj_O × mj_H} : ∀ (q w : Nat) (b : Nat → Bool), w + q = 38 → eR mm_P cm sm (fr + 3) lo 161 (54, [(0, .ref 23), (1, .int (nI (i))), (2, .int (nI 38))], []) (Wd C e P Q m N (a, tl e i b w q, c, y, n) t Z) r → eR mm_P cm sm (fr + 3) lo 161 (30, [(0, .ref 23), (1, .int (nI (i))), (2, .int (nI (w)))], []) (Wd C e P Q m N (a, b, c, y, n) t Z) r
  | 0, w, b, h1, k => by
    have e0 : w = 38 := by omega
    subst e0
    refine eR.step 2 (F' := (33, [(0, .ref 23), (1, .int (nI (i))), (2, .int (nI 38))], [.int (nI 38), .int (nI 38)])) (h' := (Wd C e P Q m N (a, b, c, y, n) t Z)) (fun _ _ => rfl) ?_
    refine eR.icmp rfl true ((nc_ge (by omega) (by omega)).trans (decide_eq_true (by omega))) ?_
    exact k
  | q + 1, w, b, h1, k => by
    have h9 := bo_64 B hi (show w < 38 by omega)
    refine eR.step 2 (F' := (33, [(0, .ref 23), (1, .int (nI (i))), (2, .int (nI (w)))], [.int (nI 38), .int (nI (w))])) (h' := (Wd C e P Q m N (a, b, c, y, n) t Z)) (fun _ _ => rfl) ?_
    refine eR.icmp rfl false ((nc_ge (by omega) (by omega)).trans (decide_eq_false (by omega))) ?_
    refine eR.step 5 (F' := (43, [(0, .ref 23), (1, .int (nI (i))), (2, .int (nI (w)))], [.int (nI (w)), .int (nI (i)), .ref 23, .ref 30])) (h' := (Wd C e P Q m N (a, b, c, y, n) t Z)) (fun _ _ => rfl) ?_
    refine eR.call (k' := 118) (as := [.ref 23, .int (nI (i)), .int (nI (w))]) (rest := [.ref 30]) (v := some (.int (nI (bo e i w)))) (h1 := (Wd C e P Q m N (a, b, c, y, n) t Z)) rfl rfl rfl rfl (eg (Nat.le_of_ble_eq_true rfl) (show 23 ≤ lo by omega) (Nat.le_of_ble_eq_true rfl)) (m_blk (show 43 ≤ lo - 23 by omega) hi (by omega) (ix_64 B hi)) ?_
    refine eR.step 1 (F' := (47, [(0, .ref 23), (1, .int (nI (i))), (2, .int (nI (w)))], [.int (nI 1), .int (nI (bo e i w)), .ref 30])) (h' := (Wd C e P Q m N (a, b, c, y, n) t Z)) (fun _ _ => rfl) ?_
    refine eR.st30t rfl (by omega) ?_
    refine eR.step 1 (F' := (51, [(0, .ref 23), (1, .int (nI (i))), (2, .int (nI (w) + 1))], [])) (h' := (Wd C e P Q m N (a, ub b (bo e i w) true, c, y, n) t Z)) (fun _ _ => rfl) ?_
    rw [show nI (w) + 1 = nI (w + 1) from nI_add (w) 1]
    refine eR.step 1 (F' := (30, [(0, .ref 23), (1, .int (nI (i))), (2, .int (nI (w + 1)))], [])) (h' := (Wd C e P Q m N (a, ub b (bo e i w) true, c, y, n) t Z)) (fun _ _ => rfl) ?_
    exact l_note hlo B hi q (w + 1) _ (by omega) k
theorem m_note {cm sm fr lo : Nat} {C : gC} {e : Nat → Nat} {P Q : gT} {m : Nat} {N : Nat → Nat} {R : gS} {t : Nat} {Z : mj_H} (hlo : 66 ≤ lo) (B : qB e) {i : Nat} (hi : i < 16) : eE mm_P cm sm (fr + 4) lo 161 [.ref 23, .int (nI (i))] (Wd C e P Q m N R t Z) (.inl (some (.int (nI (bi (!R.1 i))))), (Wd C e P Q m N (tN e R i) t Z)) := by
  refine eE.of ?_
  have h9 := ix_64 B hi
  show eR _ _ _ _ _ _ _ (Wd C e P Q m N (R.1, R.2.1, R.2.2.1, R.2.2.2.1, R.2.2.2.2) t Z) _
  refine eR.step 4 (F' := (6, [(0, .ref 23), (1, .int (nI (i)))], [.int (nI (i)), .ref 29, .int (nI (i)), .ref 29])) (h' := (Wd C e P Q m N (R.1, R.2.1, R.2.2.1, R.2.2.2.1, R.2.2.2.2) t Z)) (fun _ _ => rfl) ?_
  refine eR.ld29 rfl (by omega) ?_
  refine eR.step 1 (F' := (8, [(0, .ref 23), (1, .int (nI (i)))], [.int (nI 1), .int (nI (R.2.2.1 (i))), .int (nI (i)), .ref 29])) (h' := (Wd C e P Q m N (R.1, R.2.1, R.2.2.1, R.2.2.2.1, R.2.2.2.2) t Z)) (fun _ _ => rfl) ?_
  refine eR.nadd rfl ?_
  refine eR.st29 rfl (by omega) ?_
  refine eR.step 3 (F' := (15, [(0, .ref 23), (1, .int (nI (i)))], [.int (nI (i)), .ref 28])) (h' := (Wd C e P Q m N (R.1, R.2.1, ut R.2.2.1 (i) ((R.2.2.1 (i)) + 1), R.2.2.2.1, R.2.2.2.2) t Z)) (fun _ _ => rfl) ?_
  refine eR.ld28 rfl (by omega) ?_
  unfold tN
  by_cases h : R.1 i = true
  · rw [if_pos h, h]
    refine eR.ifc rfl false rfl ?_
    refine eR.step 1 (F' := (20, [(0, .ref 23), (1, .int (nI (i)))], [.int (nI 0)])) (h' := (Wd C e P Q m N (R.1, R.2.1, ut R.2.2.1 (i) ((R.2.2.1 (i)) + 1), R.2.2.2.1, R.2.2.2.2) t Z)) (fun _ _ => rfl) ?_
    exact eR.ret rfl rfl rfl
  · rw [if_neg h, Bool.eq_false_iff.mpr h]
    refine eR.ifc rfl true rfl ?_
    refine eR.step 4 (F' := (27, [(0, .ref 23), (1, .int (nI (i)))], [.int (nI 1), .int (nI (i)), .ref 28])) (h' := (Wd C e P Q m N (R.1, R.2.1, ut R.2.2.1 (i) ((R.2.2.1 (i)) + 1), R.2.2.2.1, R.2.2.2.2) t Z)) (fun _ _ => rfl) ?_
    refine eR.st28t rfl (by omega) ?_
    refine eR.step 2 (F' := (30, [(0, .ref 23), (1, .int (nI (i))), (2, .int (nI 0))], [])) (h' := (Wd C e P Q m N (ub R.1 (i) true, R.2.1, ut R.2.2.1 (i) ((R.2.2.1 (i)) + 1), R.2.2.2.1, R.2.2.2.2) t Z)) (fun _ _ => rfl) ?_
    refine l_note (show 66 ≤ lo by omega) B hi 38 0 _ (by omega) ?_
    refine eR.step 5 (F' := (63, [(0, .ref 23), (1, .int (nI (i))), (2, .int (nI 38))], [.int (nI (i)), .ref 24, .ref 30])) (h' := (Wd C e P Q m N (ub R.1 (i) true, tl e i R.2.1 0 38, ut R.2.2.1 (i) ((R.2.2.1 (i)) + 1), R.2.2.2.1, R.2.2.2.2) t Z)) (fun _ _ => rfl) ?_
    refine eR.call (k' := 111) (as := [.int (nI (i))]) (rest := [.ref 24, .ref 30]) (v := some (.int (nI (32 + (16 * i))))) (h1 := (Wd C e P Q m N (ub R.1 (i) true, tl e i R.2.1 0 38, ut R.2.2.1 (i) ((R.2.2.1 (i)) + 1), R.2.2.2.1, R.2.2.2.2) t Z)) rfl rfl rfl rfl (eg (Nat.le_of_ble_eq_true rfl) (show 20 ≤ lo by omega) (Nat.le_of_ble_eq_true rfl)) (m_at (by omega)) ?_
    refine eR.step 1 (F' := (68, [(0, .ref 23), (1, .int (nI (i))), (2, .int (nI 38))], [.int (nI 10), .int (nI (32 + (16 * i))), .ref 24, .ref 30])) (h' := (Wd C e P Q m N (ub R.1 (i) true, tl e i R.2.1 0 38, ut R.2.2.1 (i) ((R.2.2.1 (i)) + 1), R.2.2.2.1, R.2.2.2.2) t Z)) (fun _ _ => rfl) ?_
    refine eR.nadd rfl ?_
    refine eR.ld24 rfl (by omega) ?_
    refine eR.step 1 (F' := (71, [(0, .ref 23), (1, .int (nI (i))), (2, .int (nI 38))], [.int (nI 1), .int (nI (e ((32 + (16 * i)) + 10))), .ref 30])) (h' := (Wd C e P Q m N (ub R.1 (i) true, tl e i R.2.1 0 38, ut R.2.2.1 (i) ((R.2.2.1 (i)) + 1), R.2.2.2.1, R.2.2.2.2) t Z)) (fun _ _ => rfl) ?_
    refine eR.st30t rfl (by omega) ?_
    refine eR.step 1 (F' := (73, [(0, .ref 23), (1, .int (nI (i))), (2, .int (nI 38))], [.int (nI 1)])) (h' := (Wd C e P Q m N (ub R.1 (i) true, ub (tl e i R.2.1 0 38) (e ((32 + (16 * i)) + 10)) true, ut R.2.2.1 (i) ((R.2.2.1 (i)) + 1), R.2.2.2.1, R.2.2.2.2) t Z)) (fun _ _ => rfl) ?_
    exact eR.ret rfl rfl rfl
theorem l_w1 {cm sm fr lo : Nat} {C : gC} {e : Nat → Nat} {P Q : gT} {m : Nat} {N : Nat → Nat} {b : Nat → Bool} {y : Nat → Nat} {n t : Nat} {Z : mj_H} {r : mj_O × mj_H} : ∀ (q k : Nat) (a : Nat → Bool) (c : Nat → Nat), k + q = 16 → eR mm_P cm sm fr lo 160 (28, [(0, .ref 23), (1, .int (nI 16))], []) (Wd C e P Q m N (zb a k q, b, zn c k q, y, n) t Z) r → eR mm_P cm sm fr lo 160 (2, [(0, .ref 23), (1, .int (nI (k)))], []) (Wd C e P Q m N (a, b, c, y, n) t Z) r
  | 0, k, a, c, h1, w => by
    have e0 : k = 16 := by omega
    subst e0
    refine eR.step 2 (F' := (5, [(0, .ref 23), (1, .int (nI 16))], [.int (nI 16), .int (nI 16)])) (h' := (Wd C e P Q m N (a, b, c, y, n) t Z)) (fun _ _ => rfl) ?_
    refine eR.icmp rfl true ((nc_ge (by omega) (by omega)).trans (decide_eq_true (by omega))) ?_
    exact w
  | q + 1, k, a, c, h1, w => by
    refine eR.step 2 (F' := (5, [(0, .ref 23), (1, .int (nI (k)))], [.int (nI 16), .int (nI (k))])) (h' := (Wd C e P Q m N (a, b, c, y, n) t Z)) (fun _ _ => rfl) ?_
    refine eR.icmp rfl false ((nc_ge (by omega) (by omega)).trans (decide_eq_false (by omega))) ?_
    refine eR.step 4 (F' := (14, [(0, .ref 23), (1, .int (nI (k)))], [.int (nI 0), .int (nI (k)), .ref 28])) (h' := (Wd C e P Q m N (a, b, c, y, n) t Z)) (fun _ _ => rfl) ?_
    refine eR.st28f rfl (by omega) ?_
    refine eR.step 4 (F' := (21, [(0, .ref 23), (1, .int (nI (k)))], [.int (nI 0), .int (nI (k)), .ref 29])) (h' := (Wd C e P Q m N (ub a (k) false, b, c, y, n) t Z)) (fun _ _ => rfl) ?_
    refine eR.st29 rfl (by omega) ?_
    refine eR.step 1 (F' := (25, [(0, .ref 23), (1, .int (nI (k) + 1))], [])) (h' := (Wd C e P Q m N (ub a (k) false, b, ut c (k) (0), y, n) t Z)) (fun _ _ => rfl) ?_
    rw [show nI (k) + 1 = nI (k + 1) from nI_add (k) 1]
    refine eR.step 1 (F' := (2, [(0, .ref 23), (1, .int (nI (k + 1)))], [])) (h' := (Wd C e P Q m N (ub a (k) false, b, ut c (k) (0), y, n) t Z)) (fun _ _ => rfl) ?_
    exact l_w1 q (k + 1) _ _ (by omega) w
theorem l_w2 {cm sm fr lo : Nat} {C : gC} {e : Nat → Nat} {P Q : gT} {m : Nat} {N : Nat → Nat} {a : Nat → Bool} {c y : Nat → Nat} {n t : Nat} {Z : mj_H} {r : mj_O × mj_H} : ∀ (q k : Nat) (b : Nat → Bool), k + q = 64 → eR mm_P cm sm fr lo 160 (49, [(0, .ref 23), (1, .int (nI 64))], []) (Wd C e P Q m N (a, zb b k q, c, y, n) t Z) r → eR mm_P cm sm fr lo 160 (30, [(0, .ref 23), (1, .int (nI (k)))], []) (Wd C e P Q m N (a, b, c, y, n) t Z) r
  | 0, k, b, h1, w => by
    have e0 : k = 64 := by omega
    subst e0
    refine eR.step 2 (F' := (33, [(0, .ref 23), (1, .int (nI 64))], [.int (nI 64), .int (nI 64)])) (h' := (Wd C e P Q m N (a, b, c, y, n) t Z)) (fun _ _ => rfl) ?_
    refine eR.icmp rfl true ((nc_ge (by omega) (by omega)).trans (decide_eq_true (by omega))) ?_
    exact w
  | q + 1, k, b, h1, w => by
    refine eR.step 2 (F' := (33, [(0, .ref 23), (1, .int (nI (k)))], [.int (nI 64), .int (nI (k))])) (h' := (Wd C e P Q m N (a, b, c, y, n) t Z)) (fun _ _ => rfl) ?_
    refine eR.icmp rfl false ((nc_ge (by omega) (by omega)).trans (decide_eq_false (by omega))) ?_
    refine eR.step 4 (F' := (42, [(0, .ref 23), (1, .int (nI (k)))], [.int (nI 0), .int (nI (k)), .ref 30])) (h' := (Wd C e P Q m N (a, b, c, y, n) t Z)) (fun _ _ => rfl) ?_
    refine eR.st30f rfl (by omega) ?_
    refine eR.step 1 (F' := (46, [(0, .ref 23), (1, .int (nI (k) + 1))], [])) (h' := (Wd C e P Q m N (a, ub b (k) false, c, y, n) t Z)) (fun _ _ => rfl) ?_
    rw [show nI (k) + 1 = nI (k + 1) from nI_add (k) 1]
    refine eR.step 1 (F' := (30, [(0, .ref 23), (1, .int (nI (k + 1)))], [])) (h' := (Wd C e P Q m N (a, ub b (k) false, c, y, n) t Z)) (fun _ _ => rfl) ?_
    exact l_w2 q (k + 1) _ (by omega) w
theorem l_slB {cm sm fr lo : Nat} {C : gC} {e : Nat → Nat} {P Q : gT} {m : Nat} {N : Nat → Nat} {t : Nat} {Z : mj_H} (hlo : 88 ≤ lo) (V : qV e) {p : Nat} (hp : p < 16) (hk : e (32 + (16 * p)) = 2) {D : Nat → Bool} {r : mj_O × mj_H} : ∀ (q k z : Nat) (R : gS), qY e D R → k + q = sn e p → (∀ z, eR mm_P cm sm (fr + 5) lo 160 (71, [(0, .ref 23), (1, .int (nI ((tS e p R k q).2.2.2.2))), (2, .int (nI 1)), (3, .int (nI (p))), (4, .int (nI (sn e p))), (5, .int (nI (z)))], []) (Wd C e P Q m N (tS e p R k q) t Z) r) → eR mm_P cm sm (fr + 5) lo 160 (88, [(0, .ref 23), (1, .int (nI (R.2.2.2.2))), (2, .int (nI 1)), (3, .int (nI (p))), (4, .int (nI (k))), (5, .int (nI (z)))], []) (Wd C e P Q m N R t Z) r
  | 0, k, z, R, Y, h1, w => by
    have hD := V.gD hp hk
    have h24 := sn_le e p
    have e0 : k = sn e p := by omega
    subst e0
    refine eR.step 3 (F' := (92, [(0, .ref 23), (1, .int (nI (R.2.2.2.2))), (2, .int (nI 1)), (3, .int (nI (p))), (4, .int (nI (sn e p))), (5, .int (nI (z)))], [.int (nI (p)), .ref 23, .int (nI (sn e p))])) (h' := (Wd C e P Q m N R t Z)) (fun _ _ => rfl) ?_
    refine eR.call (k' := 130) (as := [.ref 23, .int (nI (p))]) (rest := [.int (nI (sn e p))]) (v := some (.int (nI (sn e p)))) (h1 := (Wd C e P Q m N R t Z)) rfl rfl rfl rfl (eg (Nat.le_of_ble_eq_true rfl) (show 21 ≤ lo by omega) (Nat.le_of_ble_eq_true rfl)) (m_slots (show 41 ≤ lo - 21 by omega) V.B.dk hD) ?_
    refine eR.icmp rfl true ((nc_ge (by omega) (by omega)).trans (decide_eq_true (by omega))) ?_
    refine eR.step 1 (F' := (71, [(0, .ref 23), (1, .int (nI (R.2.2.2.2))), (2, .int (nI 1)), (3, .int (nI (p))), (4, .int (nI (sn e p))), (5, .int (nI (z)))], [])) (h' := (Wd C e P Q m N R t Z)) (fun _ _ => rfl) ?_
    exact w z
  | q + 1, k, z, R, Y, h1, w => by
    have hD := V.gD hp hk
    have h24 := sn_le e p
    have hs := sa_2040 hD (show k < 24 by omega)
    have ok := slots_ok V.T p hp hk k (by omega) (by omega)
    have J := tJ_Y Y (si e p k) ok
    have le := Y.le
    have h256 := V.B.dk.1 (sa e p k)
    refine eR.step 3 (F' := (92, [(0, .ref 23), (1, .int (nI (R.2.2.2.2))), (2, .int (nI 1)), (3, .int (nI (p))), (4, .int (nI (k))), (5, .int (nI (z)))], [.int (nI (p)), .ref 23, .int (nI (k))])) (h' := (Wd C e P Q m N R t Z)) (fun _ _ => rfl) ?_
    refine eR.call (k' := 130) (as := [.ref 23, .int (nI (p))]) (rest := [.int (nI (k))]) (v := some (.int (nI (sn e p)))) (h1 := (Wd C e P Q m N R t Z)) rfl rfl rfl rfl (eg (Nat.le_of_ble_eq_true rfl) (show 21 ≤ lo by omega) (Nat.le_of_ble_eq_true rfl)) (m_slots (show 41 ≤ lo - 21 by omega) V.B.dk hD) ?_
    refine eR.icmp rfl false ((nc_ge (by omega) (by omega)).trans (decide_eq_false (by omega))) ?_
    refine eR.step 5 (F' := (106, [(0, .ref 23), (1, .int (nI (R.2.2.2.2))), (2, .int (nI 1)), (3, .int (nI (p))), (4, .int (nI (k))), (5, .int (nI (z)))], [.int (nI (k)), .int (nI (p)), .ref 23, .ref 24])) (h' := (Wd C e P Q m N R t Z)) (fun _ _ => rfl) ?_
    refine eR.call (k' := 117) (as := [.ref 23, .int (nI (p)), .int (nI (k))]) (rest := [.ref 24]) (v := some (.int (nI (sa e p k)))) (h1 := (Wd C e P Q m N R t Z)) rfl rfl rfl rfl (eg (Nat.le_of_ble_eq_true rfl) (show 22 ≤ lo by omega) (Nat.le_of_ble_eq_true rfl)) (m_slotAt (show 66 ≤ lo - 22 by omega) hD (by omega)) ?_
    refine eR.ld24 rfl (by omega) ?_
    rw [show e (sa e p k) = si e p k from rfl]
    refine eR.step 2 (F' := (114, [(0, .ref 23), (1, .int (nI (R.2.2.2.2))), (2, .int (nI 1)), (3, .int (nI (p))), (4, .int (nI (k))), (5, .int (nI (si e p k)))], [.int (nI (si e p k))])) (h' := (Wd C e P Q m N R t Z)) (fun _ _ => rfl) ?_
    have h255 : si e p k < 256 := h256
    have hJ := tJ_d e R (si e p k)
    by_cases h0 : si e p k = 0
    · refine eR.ifc rfl true ((nc_eq (b := 0) (by omega) (by decide)).trans (decide_eq_true (by omega))) ?_
      refine eR.step 1 (F' := (150, [(0, .ref 23), (1, .int (nI (R.2.2.2.2))), (2, .int (nI 1)), (3, .int (nI (p))), (4, .int (nI (k) + 1)), (5, .int (nI (si e p k)))], [])) (h' := (Wd C e P Q m N R t Z)) (fun _ _ => rfl) ?_
      rw [show nI (k) + 1 = nI (k + 1) from nI_add (k) 1]
      refine eR.step 1 (F' := (88, [(0, .ref 23), (1, .int (nI (R.2.2.2.2))), (2, .int (nI 1)), (3, .int (nI (p))), (4, .int (nI (k + 1))), (5, .int (nI (si e p k)))], [])) (h' := (Wd C e P Q m N R t Z)) (fun _ _ => rfl) ?_
      rw [if_pos h0] at hJ
      rw [hJ] at J
      have w2 : (∀ z, eR mm_P cm sm (fr + 5) lo 160 (71, [(0, .ref 23), (1, .int (nI ((tS e p R (k + 1) q).2.2.2.2))), (2, .int (nI 1)), (3, .int (nI (p))), (4, .int (nI (sn e p))), (5, .int (nI (z)))], []) (Wd C e P Q m N (tS e p R (k + 1) q) t Z) r) := fun z => by have h := w z; rw [tS, hJ] at h; exact h
      exact l_slB hlo V hp hk q (k + 1) _ _ J.1 (by omega) w2
    · have ok2 := ok h0
      rw [if_neg h0] at hJ
      refine eR.ifc rfl false ((nc_eq (b := 0) (by omega) (by decide)).trans (decide_eq_false (by omega))) ?_
      refine eR.step 2 (F' := (120, [(0, .ref 23), (1, .int (nI (R.2.2.2.2))), (2, .int (nI 1)), (3, .int (nI (p))), (4, .int (nI (k))), (5, .int (nI (si e p k)))], [.int (nI (si e p k)), .ref 23])) (h' := (Wd C e P Q m N R t Z)) (fun _ _ => rfl) ?_
      refine eR.call (k' := 161) (as := [.ref 23, .int (nI (si e p k))]) (rest := []) (v := some (.int (nI (bi (!R.1 (si e p k)))))) (h1 := (Wd C e P Q m N (tN e R (si e p k)) t Z)) rfl rfl rfl rfl (eg (Nat.le_of_ble_eq_true rfl) (show 22 ≤ lo by omega) (Nat.le_of_ble_eq_true rfl)) (m_note (show 66 ≤ lo - 22 by omega) V.B ok2.1) ?_
      by_cases h1 : R.1 (si e p k) = true
      · rw [if_pos h1] at hJ
        rw [h1]
        have hn : (tN e R (si e p k)).2.2.2.2 = R.2.2.2.2 := by rw [tN_old _ h1]
        refine eR.ifc rfl true rfl ?_
        refine eR.step 1 (F' := (150, [(0, .ref 23), (1, .int (nI (R.2.2.2.2))), (2, .int (nI 1)), (3, .int (nI (p))), (4, .int (nI (k) + 1)), (5, .int (nI (si e p k)))], [])) (h' := (Wd C e P Q m N (tN e R (si e p k)) t Z)) (fun _ _ => rfl) ?_
        rw [show nI (k) + 1 = nI (k + 1) from nI_add (k) 1]
        refine eR.step 1 (F' := (88, [(0, .ref 23), (1, .int (nI (R.2.2.2.2))), (2, .int (nI 1)), (3, .int (nI (p))), (4, .int (nI (k + 1))), (5, .int (nI (si e p k)))], [])) (h' := (Wd C e P Q m N (tN e R (si e p k)) t Z)) (fun _ _ => rfl) ?_
        rw [hJ] at J
        rw [← hn]
        refine l_slB hlo V hp hk q (k + 1) _ _ J.1 (by omega) (fun z => ?_)
        have h := w z
        rw [tS, hJ] at h
        exact h
      · rw [if_neg h1] at hJ
        rw [Bool.eq_false_iff.mpr h1]
        have hn : (tN e R (si e p k)).2.2.2.2 = R.2.2.2.2 := by rw [tN_new _ h1]
        refine eR.ifc rfl false rfl ?_
        refine eR.step 2 (F' := (129, [(0, .ref 23), (1, .int (nI (R.2.2.2.2))), (2, .int (nI 1)), (3, .int (nI (p))), (4, .int (nI (k))), (5, .int (nI (si e p k)))], [.int (nI (si e p k)), .ref 23])) (h' := (Wd C e P Q m N (tN e R (si e p k)) t Z)) (fun _ _ => rfl) ?_
        have h6 := V.B.dk.1 (32 + (16 * si e p k))
        refine eR.call (k' := 128) (as := [.ref 23, .int (nI (si e p k))]) (rest := []) (v := some (.int (nI (e (32 + (16 * si e p k)))))) (h1 := (Wd C e P Q m N (tN e R (si e p k)) t Z)) rfl rfl rfl rfl (eg (Nat.le_of_ble_eq_true rfl) (show 21 ≤ lo by omega) (Nat.le_of_ble_eq_true rfl)) (m_kind (show 20 ≤ lo - 21 by omega) ok2.1) ?_
        refine eR.step 1 (F' := (133, [(0, .ref 23), (1, .int (nI (R.2.2.2.2))), (2, .int (nI 1)), (3, .int (nI (p))), (4, .int (nI (k))), (5, .int (nI (si e p k)))], [.int (nI 2), .int (nI (e (32 + (16 * si e p k))))])) (h' := (Wd C e P Q m N (tN e R (si e p k)) t Z)) (fun _ _ => rfl) ?_
        by_cases h2 : e (32 + (16 * si e p k)) = 2
        · have h14 := J.2.2.2.2 h0 h1 h2
          rw [if_pos h2] at hJ
          refine eR.icmp rfl false ((nc_ne (by omega) (by omega)).trans (decide_eq_false (by omega))) ?_
          refine eR.step 4 (F' := (143, [(0, .ref 23), (1, .int (nI (R.2.2.2.2))), (2, .int (nI 1)), (3, .int (nI (p))), (4, .int (nI (k))), (5, .int (nI (si e p k)))], [.int (nI (si e p k)), .int (nI (R.2.2.2.2)), .ref 31])) (h' := (Wd C e P Q m N (tN e R (si e p k)) t Z)) (fun _ _ => rfl) ?_
          refine eR.st31 rfl (by omega) ?_
          show eR _ _ _ _ _ _ _ (Wd C e P Q m N ((tN e R (si e p k)).1, (tN e R (si e p k)).2.1, (tN e R (si e p k)).2.2.1, ut (tN e R (si e p k)).2.2.2.1 R.2.2.2.2 (si e p k), R.2.2.2.2 + 1) t Z) _
          refine eR.step 1 (F' := (147, [(0, .ref 23), (1, .int (nI (R.2.2.2.2) + 1)), (2, .int (nI 1)), (3, .int (nI (p))), (4, .int (nI (k))), (5, .int (nI (si e p k)))], [])) (h' := (Wd C e P Q m N ((tN e R (si e p k)).1, (tN e R (si e p k)).2.1, (tN e R (si e p k)).2.2.1, ut (tN e R (si e p k)).2.2.2.1 R.2.2.2.2 (si e p k), R.2.2.2.2 + 1) t Z)) (fun _ _ => rfl) ?_
          rw [show nI (R.2.2.2.2) + 1 = nI (R.2.2.2.2 + 1) from nI_add (R.2.2.2.2) 1]
          refine eR.step 1 (F' := (150, [(0, .ref 23), (1, .int (nI (R.2.2.2.2 + 1))), (2, .int (nI 1)), (3, .int (nI (p))), (4, .int (nI (k) + 1)), (5, .int (nI (si e p k)))], [])) (h' := (Wd C e P Q m N ((tN e R (si e p k)).1, (tN e R (si e p k)).2.1, (tN e R (si e p k)).2.2.1, ut (tN e R (si e p k)).2.2.2.1 R.2.2.2.2 (si e p k), R.2.2.2.2 + 1) t Z)) (fun _ _ => rfl) ?_
          rw [show nI (k) + 1 = nI (k + 1) from nI_add (k) 1]
          refine eR.step 1 (F' := (88, [(0, .ref 23), (1, .int (nI (R.2.2.2.2 + 1))), (2, .int (nI 1)), (3, .int (nI (p))), (4, .int (nI (k + 1))), (5, .int (nI (si e p k)))], [])) (h' := (Wd C e P Q m N ((tN e R (si e p k)).1, (tN e R (si e p k)).2.1, (tN e R (si e p k)).2.2.1, ut (tN e R (si e p k)).2.2.2.1 R.2.2.2.2 (si e p k), R.2.2.2.2 + 1) t Z)) (fun _ _ => rfl) ?_
          have hR : ((tN e R (si e p k)).1, (tN e R (si e p k)).2.1, (tN e R (si e p k)).2.2.1, ut (tN e R (si e p k)).2.2.2.1 R.2.2.2.2 (si e p k), R.2.2.2.2 + 1) = tp (tN e R (si e p k)) (si e p k) := by unfold tp; rw [hn]
          rw [hJ] at J
          rw [hR, show R.2.2.2.2 + 1 = (tp (tN e R (si e p k)) (si e p k)).2.2.2.2 by unfold tp; rw [hn]]
          refine l_slB hlo V hp hk q (k + 1) _ _ J.1 (by omega) (fun z => ?_)
          have h := w z
          rw [tS, hJ] at h
          exact h
        · rw [if_neg h2] at hJ
          refine eR.icmp rfl true ((nc_ne (by omega) (by omega)).trans (decide_eq_true (by omega))) ?_
          refine eR.step 1 (F' := (150, [(0, .ref 23), (1, .int (nI (R.2.2.2.2))), (2, .int (nI 1)), (3, .int (nI (p))), (4, .int (nI (k) + 1)), (5, .int (nI (si e p k)))], [])) (h' := (Wd C e P Q m N (tN e R (si e p k)) t Z)) (fun _ _ => rfl) ?_
          rw [show nI (k) + 1 = nI (k + 1) from nI_add (k) 1]
          refine eR.step 1 (F' := (88, [(0, .ref 23), (1, .int (nI (R.2.2.2.2))), (2, .int (nI 1)), (3, .int (nI (p))), (4, .int (nI (k + 1))), (5, .int (nI (si e p k)))], [])) (h' := (Wd C e P Q m N (tN e R (si e p k)) t Z)) (fun _ _ => rfl) ?_
          rw [hJ] at J
          rw [← hn]
          refine l_slB hlo V hp hk q (k + 1) _ _ J.1 (by omega) (fun z => ?_)
          have h := w z
          rw [tS, hJ] at h
          exact h
theorem l_slA {cm sm fr lo : Nat} {C : gC} {e : Nat → Nat} {P Q : gT} {m : Nat} {N : Nat → Nat} {t : Nat} {Z : mj_H} (hlo : 88 ≤ lo) (V : qV e) {p : Nat} (hp : p < 16) (hk : e (32 + (16 * p)) = 2) {D : Nat → Bool} {r : mj_O × mj_H} : ∀ (q k : Nat) (R : gS), qY e D R → k + q = sn e p → 0 < q → (∀ z, eR mm_P cm sm (fr + 5) lo 160 (71, [(0, .ref 23), (1, .int (nI ((tS e p R k q).2.2.2.2))), (2, .int (nI 1)), (3, .int (nI (p))), (4, .int (nI (sn e p))), (5, .int (nI (z)))], []) (Wd C e P Q m N (tS e p R k q) t Z) r) → eR mm_P cm sm (fr + 5) lo 160 (88, [(0, .ref 23), (1, .int (nI (R.2.2.2.2))), (2, .int (nI 1)), (3, .int (nI (p))), (4, .int (nI (k)))], []) (Wd C e P Q m N R t Z) r
  | 0, k, R, Y, h1, h0, w => by omega
  | q + 1, k, R, Y, h1, h00, w => by
    have hD := V.gD hp hk
    have h24 := sn_le e p
    have hs := sa_2040 hD (show k < 24 by omega)
    have ok := slots_ok V.T p hp hk k (by omega) (by omega)
    have J := tJ_Y Y (si e p k) ok
    have le := Y.le
    have h256 := V.B.dk.1 (sa e p k)
    refine eR.step 3 (F' := (92, [(0, .ref 23), (1, .int (nI (R.2.2.2.2))), (2, .int (nI 1)), (3, .int (nI (p))), (4, .int (nI (k)))], [.int (nI (p)), .ref 23, .int (nI (k))])) (h' := (Wd C e P Q m N R t Z)) (fun _ _ => rfl) ?_
    refine eR.call (k' := 130) (as := [.ref 23, .int (nI (p))]) (rest := [.int (nI (k))]) (v := some (.int (nI (sn e p)))) (h1 := (Wd C e P Q m N R t Z)) rfl rfl rfl rfl (eg (Nat.le_of_ble_eq_true rfl) (show 21 ≤ lo by omega) (Nat.le_of_ble_eq_true rfl)) (m_slots (show 41 ≤ lo - 21 by omega) V.B.dk hD) ?_
    refine eR.icmp rfl false ((nc_ge (by omega) (by omega)).trans (decide_eq_false (by omega))) ?_
    refine eR.step 5 (F' := (106, [(0, .ref 23), (1, .int (nI (R.2.2.2.2))), (2, .int (nI 1)), (3, .int (nI (p))), (4, .int (nI (k)))], [.int (nI (k)), .int (nI (p)), .ref 23, .ref 24])) (h' := (Wd C e P Q m N R t Z)) (fun _ _ => rfl) ?_
    refine eR.call (k' := 117) (as := [.ref 23, .int (nI (p)), .int (nI (k))]) (rest := [.ref 24]) (v := some (.int (nI (sa e p k)))) (h1 := (Wd C e P Q m N R t Z)) rfl rfl rfl rfl (eg (Nat.le_of_ble_eq_true rfl) (show 22 ≤ lo by omega) (Nat.le_of_ble_eq_true rfl)) (m_slotAt (show 66 ≤ lo - 22 by omega) hD (by omega)) ?_
    refine eR.ld24 rfl (by omega) ?_
    rw [show e (sa e p k) = si e p k from rfl]
    refine eR.step 2 (F' := (114, [(0, .ref 23), (1, .int (nI (R.2.2.2.2))), (2, .int (nI 1)), (3, .int (nI (p))), (4, .int (nI (k))), (5, .int (nI (si e p k)))], [.int (nI (si e p k))])) (h' := (Wd C e P Q m N R t Z)) (fun _ _ => rfl) ?_
    have h255 : si e p k < 256 := h256
    have hJ := tJ_d e R (si e p k)
    by_cases h0 : si e p k = 0
    · refine eR.ifc rfl true ((nc_eq (b := 0) (by omega) (by decide)).trans (decide_eq_true (by omega))) ?_
      refine eR.step 1 (F' := (150, [(0, .ref 23), (1, .int (nI (R.2.2.2.2))), (2, .int (nI 1)), (3, .int (nI (p))), (4, .int (nI (k) + 1)), (5, .int (nI (si e p k)))], [])) (h' := (Wd C e P Q m N R t Z)) (fun _ _ => rfl) ?_
      rw [show nI (k) + 1 = nI (k + 1) from nI_add (k) 1]
      refine eR.step 1 (F' := (88, [(0, .ref 23), (1, .int (nI (R.2.2.2.2))), (2, .int (nI 1)), (3, .int (nI (p))), (4, .int (nI (k + 1))), (5, .int (nI (si e p k)))], [])) (h' := (Wd C e P Q m N R t Z)) (fun _ _ => rfl) ?_
      rw [if_pos h0] at hJ
      rw [hJ] at J
      have w2 : (∀ z, eR mm_P cm sm (fr + 5) lo 160 (71, [(0, .ref 23), (1, .int (nI ((tS e p R (k + 1) q).2.2.2.2))), (2, .int (nI 1)), (3, .int (nI (p))), (4, .int (nI (sn e p))), (5, .int (nI (z)))], []) (Wd C e P Q m N (tS e p R (k + 1) q) t Z) r) := fun z => by have h := w z; rw [tS, hJ] at h; exact h
      exact l_slB hlo V hp hk q (k + 1) _ _ J.1 (by omega) w2
    · have ok2 := ok h0
      rw [if_neg h0] at hJ
      refine eR.ifc rfl false ((nc_eq (b := 0) (by omega) (by decide)).trans (decide_eq_false (by omega))) ?_
      refine eR.step 2 (F' := (120, [(0, .ref 23), (1, .int (nI (R.2.2.2.2))), (2, .int (nI 1)), (3, .int (nI (p))), (4, .int (nI (k))), (5, .int (nI (si e p k)))], [.int (nI (si e p k)), .ref 23])) (h' := (Wd C e P Q m N R t Z)) (fun _ _ => rfl) ?_
      refine eR.call (k' := 161) (as := [.ref 23, .int (nI (si e p k))]) (rest := []) (v := some (.int (nI (bi (!R.1 (si e p k)))))) (h1 := (Wd C e P Q m N (tN e R (si e p k)) t Z)) rfl rfl rfl rfl (eg (Nat.le_of_ble_eq_true rfl) (show 22 ≤ lo by omega) (Nat.le_of_ble_eq_true rfl)) (m_note (show 66 ≤ lo - 22 by omega) V.B ok2.1) ?_
      by_cases h1 : R.1 (si e p k) = true
      · rw [if_pos h1] at hJ
        rw [h1]
        have hn : (tN e R (si e p k)).2.2.2.2 = R.2.2.2.2 := by rw [tN_old _ h1]
        refine eR.ifc rfl true rfl ?_
        refine eR.step 1 (F' := (150, [(0, .ref 23), (1, .int (nI (R.2.2.2.2))), (2, .int (nI 1)), (3, .int (nI (p))), (4, .int (nI (k) + 1)), (5, .int (nI (si e p k)))], [])) (h' := (Wd C e P Q m N (tN e R (si e p k)) t Z)) (fun _ _ => rfl) ?_
        rw [show nI (k) + 1 = nI (k + 1) from nI_add (k) 1]
        refine eR.step 1 (F' := (88, [(0, .ref 23), (1, .int (nI (R.2.2.2.2))), (2, .int (nI 1)), (3, .int (nI (p))), (4, .int (nI (k + 1))), (5, .int (nI (si e p k)))], [])) (h' := (Wd C e P Q m N (tN e R (si e p k)) t Z)) (fun _ _ => rfl) ?_
        rw [hJ] at J
        rw [← hn]
        refine l_slB hlo V hp hk q (k + 1) _ _ J.1 (by omega) (fun z => ?_)
        have h := w z
        rw [tS, hJ] at h
        exact h
      · rw [if_neg h1] at hJ
        rw [Bool.eq_false_iff.mpr h1]
        have hn : (tN e R (si e p k)).2.2.2.2 = R.2.2.2.2 := by rw [tN_new _ h1]
        refine eR.ifc rfl false rfl ?_
        refine eR.step 2 (F' := (129, [(0, .ref 23), (1, .int (nI (R.2.2.2.2))), (2, .int (nI 1)), (3, .int (nI (p))), (4, .int (nI (k))), (5, .int (nI (si e p k)))], [.int (nI (si e p k)), .ref 23])) (h' := (Wd C e P Q m N (tN e R (si e p k)) t Z)) (fun _ _ => rfl) ?_
        have h6 := V.B.dk.1 (32 + (16 * si e p k))
        refine eR.call (k' := 128) (as := [.ref 23, .int (nI (si e p k))]) (rest := []) (v := some (.int (nI (e (32 + (16 * si e p k)))))) (h1 := (Wd C e P Q m N (tN e R (si e p k)) t Z)) rfl rfl rfl rfl (eg (Nat.le_of_ble_eq_true rfl) (show 21 ≤ lo by omega) (Nat.le_of_ble_eq_true rfl)) (m_kind (show 20 ≤ lo - 21 by omega) ok2.1) ?_
        refine eR.step 1 (F' := (133, [(0, .ref 23), (1, .int (nI (R.2.2.2.2))), (2, .int (nI 1)), (3, .int (nI (p))), (4, .int (nI (k))), (5, .int (nI (si e p k)))], [.int (nI 2), .int (nI (e (32 + (16 * si e p k))))])) (h' := (Wd C e P Q m N (tN e R (si e p k)) t Z)) (fun _ _ => rfl) ?_
        by_cases h2 : e (32 + (16 * si e p k)) = 2
        · have h14 := J.2.2.2.2 h0 h1 h2
          rw [if_pos h2] at hJ
          refine eR.icmp rfl false ((nc_ne (by omega) (by omega)).trans (decide_eq_false (by omega))) ?_
          refine eR.step 4 (F' := (143, [(0, .ref 23), (1, .int (nI (R.2.2.2.2))), (2, .int (nI 1)), (3, .int (nI (p))), (4, .int (nI (k))), (5, .int (nI (si e p k)))], [.int (nI (si e p k)), .int (nI (R.2.2.2.2)), .ref 31])) (h' := (Wd C e P Q m N (tN e R (si e p k)) t Z)) (fun _ _ => rfl) ?_
          refine eR.st31 rfl (by omega) ?_
          show eR _ _ _ _ _ _ _ (Wd C e P Q m N ((tN e R (si e p k)).1, (tN e R (si e p k)).2.1, (tN e R (si e p k)).2.2.1, ut (tN e R (si e p k)).2.2.2.1 R.2.2.2.2 (si e p k), R.2.2.2.2 + 1) t Z) _
          refine eR.step 1 (F' := (147, [(0, .ref 23), (1, .int (nI (R.2.2.2.2) + 1)), (2, .int (nI 1)), (3, .int (nI (p))), (4, .int (nI (k))), (5, .int (nI (si e p k)))], [])) (h' := (Wd C e P Q m N ((tN e R (si e p k)).1, (tN e R (si e p k)).2.1, (tN e R (si e p k)).2.2.1, ut (tN e R (si e p k)).2.2.2.1 R.2.2.2.2 (si e p k), R.2.2.2.2 + 1) t Z)) (fun _ _ => rfl) ?_
          rw [show nI (R.2.2.2.2) + 1 = nI (R.2.2.2.2 + 1) from nI_add (R.2.2.2.2) 1]
          refine eR.step 1 (F' := (150, [(0, .ref 23), (1, .int (nI (R.2.2.2.2 + 1))), (2, .int (nI 1)), (3, .int (nI (p))), (4, .int (nI (k) + 1)), (5, .int (nI (si e p k)))], [])) (h' := (Wd C e P Q m N ((tN e R (si e p k)).1, (tN e R (si e p k)).2.1, (tN e R (si e p k)).2.2.1, ut (tN e R (si e p k)).2.2.2.1 R.2.2.2.2 (si e p k), R.2.2.2.2 + 1) t Z)) (fun _ _ => rfl) ?_
          rw [show nI (k) + 1 = nI (k + 1) from nI_add (k) 1]
          refine eR.step 1 (F' := (88, [(0, .ref 23), (1, .int (nI (R.2.2.2.2 + 1))), (2, .int (nI 1)), (3, .int (nI (p))), (4, .int (nI (k + 1))), (5, .int (nI (si e p k)))], [])) (h' := (Wd C e P Q m N ((tN e R (si e p k)).1, (tN e R (si e p k)).2.1, (tN e R (si e p k)).2.2.1, ut (tN e R (si e p k)).2.2.2.1 R.2.2.2.2 (si e p k), R.2.2.2.2 + 1) t Z)) (fun _ _ => rfl) ?_
          have hR : ((tN e R (si e p k)).1, (tN e R (si e p k)).2.1, (tN e R (si e p k)).2.2.1, ut (tN e R (si e p k)).2.2.2.1 R.2.2.2.2 (si e p k), R.2.2.2.2 + 1) = tp (tN e R (si e p k)) (si e p k) := by unfold tp; rw [hn]
          rw [hJ] at J
          rw [hR, show R.2.2.2.2 + 1 = (tp (tN e R (si e p k)) (si e p k)).2.2.2.2 by unfold tp; rw [hn]]
          refine l_slB hlo V hp hk q (k + 1) _ _ J.1 (by omega) (fun z => ?_)
          have h := w z
          rw [tS, hJ] at h
          exact h
        · rw [if_neg h2] at hJ
          refine eR.icmp rfl true ((nc_ne (by omega) (by omega)).trans (decide_eq_true (by omega))) ?_
          refine eR.step 1 (F' := (150, [(0, .ref 23), (1, .int (nI (R.2.2.2.2))), (2, .int (nI 1)), (3, .int (nI (p))), (4, .int (nI (k) + 1)), (5, .int (nI (si e p k)))], [])) (h' := (Wd C e P Q m N (tN e R (si e p k)) t Z)) (fun _ _ => rfl) ?_
          rw [show nI (k) + 1 = nI (k + 1) from nI_add (k) 1]
          refine eR.step 1 (F' := (88, [(0, .ref 23), (1, .int (nI (R.2.2.2.2))), (2, .int (nI 1)), (3, .int (nI (p))), (4, .int (nI (k + 1))), (5, .int (nI (si e p k)))], [])) (h' := (Wd C e P Q m N (tN e R (si e p k)) t Z)) (fun _ _ => rfl) ?_
          rw [hJ] at J
          rw [← hn]
          refine l_slB hlo V hp hk q (k + 1) _ _ J.1 (by omega) (fun z => ?_)
          have h := w z
          rw [tS, hJ] at h
          exact h
theorem l_walkB {cm sm fr lo : Nat} {C : gC} {e : Nat → Nat} {P Q : gT} {m : Nat} {N : Nat → Nat} {t : Nat} {Z : mj_H} (hlo : 88 ≤ lo) (V : qV e) : ∀ (j p k z : Nat) (D : Nat → Bool) (R : gS), qZ e D R → 16 ≤ pc D + j → eR mm_P cm sm (fr + 5) lo 160 (71, [(0, .ref 23), (1, .int (nI (R.2.2.2.2))), (2, .int (nI 1)), (3, .int (nI (p))), (4, .int (nI (k))), (5, .int (nI (z)))], []) (Wd C e P Q m N R t Z) (.inl none, (Wd C e P Q m N (tW e j R) t Z))
  | 0, p, k, z, D, R, Zz, h => by
    have e0 : R.2.2.2.2 = 0 := by
      by_cases z0 : R.2.2.2.2 = 0
      · exact z0
      · have top := Zz.Y.stk (R.2.2.2.2 - 1) (by omega)
        have := pc_ub D _ top.1 top.2.2.2
        have := pc_le (ub D (R.2.2.2.1 (R.2.2.2.2 - 1)) true)
        omega
    refine eR.step 1 (F' := (72, [(0, .ref 23), (1, .int (nI (R.2.2.2.2))), (2, .int (nI 1)), (3, .int (nI (p))), (4, .int (nI (k))), (5, .int (nI (z)))], [.int (nI (R.2.2.2.2))])) (h' := (Wd C e P Q m N R t Z)) (fun _ _ => rfl) ?_
    refine eR.ifc rfl true ((nc_le (b := 0) (by omega) (by decide)).trans (decide_eq_true (by omega))) ?_
    exact eR.ret rfl rfl rfl
  | j + 1, p, k, z, D, R, Zz, h => by
    have le := Zz.Y.le
    rw [tW]
    refine eR.step 1 (F' := (72, [(0, .ref 23), (1, .int (nI (R.2.2.2.2))), (2, .int (nI 1)), (3, .int (nI (p))), (4, .int (nI (k))), (5, .int (nI (z)))], [.int (nI (R.2.2.2.2))])) (h' := (Wd C e P Q m N R t Z)) (fun _ _ => rfl) ?_
    by_cases h0 : R.2.2.2.2 = 0
    · rw [if_pos h0]
      refine eR.ifc rfl true ((nc_le (b := 0) (by omega) (by decide)).trans (decide_eq_true (by omega))) ?_
      exact eR.ret rfl rfl rfl
    · have top := Zz.Y.stk (R.2.2.2.2 - 1) (by omega)
      have hpc := pc_ub D _ top.1 top.2.2.2
      have hZ := tP_Z V.T Zz h0
      have hD := V.gD top.1 top.2.1
      have h2 := hD.2.2.1
      rw [if_neg h0]
      refine eR.ifc rfl false ((nc_le (b := 0) (by omega) (by decide)).trans (decide_eq_false (by omega))) ?_
      refine eR.step 1 (F' := (78, [(0, .ref 23), (1, .int (nI (R.2.2.2.2) + Int32.ofInt (-1))), (2, .int (nI 1)), (3, .int (nI (p))), (4, .int (nI (k))), (5, .int (nI (z)))], [])) (h' := (Wd C e P Q m N R t Z)) (fun _ _ => rfl) ?_
      rw [ki_n h0 (by omega)]
      refine eR.step 3 (F' := (83, [(0, .ref 23), (1, .int (nI (R.2.2.2.2 - 1))), (2, .int (nI 1)), (3, .int (nI (p))), (4, .int (nI (k))), (5, .int (nI (z)))], [.int (nI (R.2.2.2.2 - 1)), .ref 31])) (h' := (Wd C e P Q m N R t Z)) (fun _ _ => rfl) ?_
      refine eR.ld31 rfl (by omega) ?_
      refine eR.step 3 (F' := (88, [(0, .ref 23), (1, .int (nI (R.2.2.2.2 - 1))), (2, .int (nI 1)), (3, .int (nI (R.2.2.2.1 (R.2.2.2.2 - 1)))), (4, .int (nI 0)), (5, .int (nI (z)))], [])) (h' := (Wd C e P Q m N R t Z)) (fun _ _ => rfl) ?_
      show eR _ _ _ _ _ _ (88, [(0, .ref 23), (1, .int (nI ((to R).2.2.2.2))), (2, .int (nI 1)), (3, .int (nI (R.2.2.2.1 (R.2.2.2.2 - 1)))), (4, .int (nI 0)), (5, .int (nI (z)))], []) (Wd C e P Q m N (to R) t Z) _
      refine l_slB hlo V top.1 top.2.1 (sn e (R.2.2.2.1 (R.2.2.2.2 - 1))) 0 _ (to R) (to_Y Zz.Y h0) (by omega) (fun z => ?_)
      exact l_walkB hlo V j _ _ _ _ (tP e R) hZ (by omega)
theorem l_walkA {cm sm fr lo : Nat} {C : gC} {e : Nat → Nat} {P Q : gT} {m : Nat} {N : Nat → Nat} {t : Nat} {Z : mj_H} (hlo : 88 ≤ lo) (V : qV e) : ∀ (j : Nat) (D : Nat → Bool) (R : gS), qZ e D R → 16 ≤ pc D + j → eR mm_P cm sm (fr + 5) lo 160 (71, [(0, .ref 23), (1, .int (nI (R.2.2.2.2))), (2, .int (nI 1))], []) (Wd C e P Q m N R t Z) (.inl none, (Wd C e P Q m N (tW e j R) t Z))
  | 0, D, R, Zz, h => by
    have e0 : R.2.2.2.2 = 0 := by
      by_cases z0 : R.2.2.2.2 = 0
      · exact z0
      · have top := Zz.Y.stk (R.2.2.2.2 - 1) (by omega)
        have := pc_ub D _ top.1 top.2.2.2
        have := pc_le (ub D (R.2.2.2.1 (R.2.2.2.2 - 1)) true)
        omega
    refine eR.step 1 (F' := (72, [(0, .ref 23), (1, .int (nI (R.2.2.2.2))), (2, .int (nI 1))], [.int (nI (R.2.2.2.2))])) (h' := (Wd C e P Q m N R t Z)) (fun _ _ => rfl) ?_
    refine eR.ifc rfl true ((nc_le (b := 0) (by omega) (by decide)).trans (decide_eq_true (by omega))) ?_
    exact eR.ret rfl rfl rfl
  | j + 1, D, R, Zz, h => by
    have le := Zz.Y.le
    rw [tW]
    refine eR.step 1 (F' := (72, [(0, .ref 23), (1, .int (nI (R.2.2.2.2))), (2, .int (nI 1))], [.int (nI (R.2.2.2.2))])) (h' := (Wd C e P Q m N R t Z)) (fun _ _ => rfl) ?_
    by_cases h0 : R.2.2.2.2 = 0
    · rw [if_pos h0]
      refine eR.ifc rfl true ((nc_le (b := 0) (by omega) (by decide)).trans (decide_eq_true (by omega))) ?_
      exact eR.ret rfl rfl rfl
    · have top := Zz.Y.stk (R.2.2.2.2 - 1) (by omega)
      have hpc := pc_ub D _ top.1 top.2.2.2
      have hZ := tP_Z V.T Zz h0
      have hD := V.gD top.1 top.2.1
      have h2 := hD.2.2.1
      rw [if_neg h0]
      refine eR.ifc rfl false ((nc_le (b := 0) (by omega) (by decide)).trans (decide_eq_false (by omega))) ?_
      refine eR.step 1 (F' := (78, [(0, .ref 23), (1, .int (nI (R.2.2.2.2) + Int32.ofInt (-1))), (2, .int (nI 1))], [])) (h' := (Wd C e P Q m N R t Z)) (fun _ _ => rfl) ?_
      rw [ki_n h0 (by omega)]
      refine eR.step 3 (F' := (83, [(0, .ref 23), (1, .int (nI (R.2.2.2.2 - 1))), (2, .int (nI 1))], [.int (nI (R.2.2.2.2 - 1)), .ref 31])) (h' := (Wd C e P Q m N R t Z)) (fun _ _ => rfl) ?_
      refine eR.ld31 rfl (by omega) ?_
      refine eR.step 3 (F' := (88, [(0, .ref 23), (1, .int (nI (R.2.2.2.2 - 1))), (2, .int (nI 1)), (3, .int (nI (R.2.2.2.1 (R.2.2.2.2 - 1)))), (4, .int (nI 0))], [])) (h' := (Wd C e P Q m N R t Z)) (fun _ _ => rfl) ?_
      show eR _ _ _ _ _ _ (88, [(0, .ref 23), (1, .int (nI ((to R).2.2.2.2))), (2, .int (nI 1)), (3, .int (nI (R.2.2.2.1 (R.2.2.2.2 - 1)))), (4, .int (nI 0))], []) (Wd C e P Q m N (to R) t Z) _
      refine l_slA hlo V top.1 top.2.1 (sn e (R.2.2.2.1 (R.2.2.2.2 - 1))) 0 (to R) (to_Y Zz.Y h0) (by omega) (by omega) (fun z => ?_)
      exact l_walkB hlo V j _ _ _ _ (tP e R) hZ (by omega)
theorem m_walk {cm sm fr lo : Nat} {C : gC} {e : Nat → Nat} {P Q : gT} {m : Nat} {N : Nat → Nat} {R : gS} {t : Nat} {Z : mj_H} (hlo : 88 ≤ lo) (V : qV e) : eE mm_P cm sm (fr + 6) lo 160 [.ref 23] (Wd C e P Q m N R t Z) (.inl (none), (Wd C e P Q m N (tA e R) t Z)) := by
  refine eE.of ?_
  have k1 := V.T.k1
  rw [qk_lt e 1 (by omega)] at k1
  show eR _ _ _ _ _ _ _ (Wd C e P Q m N (R.1, R.2.1, R.2.2.1, R.2.2.2.1, R.2.2.2.2) t Z) _
  refine eR.step 2 (F' := (2, [(0, .ref 23), (1, .int (nI 0))], [])) (h' := (Wd C e P Q m N (R.1, R.2.1, R.2.2.1, R.2.2.2.1, R.2.2.2.2) t Z)) (fun _ _ => rfl) ?_
  refine l_w1 16 0 _ _ (by omega) ?_
  refine eR.step 2 (F' := (30, [(0, .ref 23), (1, .int (nI 0))], [])) (h' := (Wd C e P Q m N (zb R.1 0 16, R.2.1, zn R.2.2.1 0 16, R.2.2.2.1, R.2.2.2.2) t Z)) (fun _ _ => rfl) ?_
  refine l_w2 64 0 _ (by omega) ?_
  refine eR.step 6 (F' := (57, [(0, .ref 23), (1, .int (nI 1))], [.int (nI 1), .int (nI 0), .ref 31])) (h' := (Wd C e P Q m N (zb R.1 0 16, zb R.2.1 0 64, zn R.2.2.1 0 16, R.2.2.2.1, R.2.2.2.2) t Z)) (fun _ _ => rfl) ?_
  refine eR.st31 rfl (by omega) ?_
  refine eR.step 2 (F' := (60, [(0, .ref 23), (1, .int (nI 1))], [.int (nI 1), .ref 23])) (h' := (Wd C e P Q m N (zb R.1 0 16, zb R.2.1 0 64, zn R.2.2.1 0 16, ut R.2.2.2.1 (0) (1), R.2.2.2.2) t Z)) (fun _ _ => rfl) ?_
  show eR _ _ _ _ _ _ _ (Wd C e P Q m N (tz R) t Z) _
  refine eR.call (k' := 161) (as := [.ref 23, .int (nI 1)]) (rest := []) (v := some (.int (nI (bi (!(tz R).1 1))))) (h1 := (Wd C e P Q m N (tN e (tz R) 1) t Z)) rfl rfl rfl rfl (eg (Nat.le_of_ble_eq_true rfl) (show 22 ≤ lo by omega) (Nat.le_of_ble_eq_true rfl)) (m_note (show 66 ≤ lo - 22 by omega) V.B (by omega)) ?_
  rw [show (tz R).1 1 = false by show zb R.1 0 16 1 = false; rw [zb_at, if_pos (by omega)]]
  rw [show bi (!false) = 1 from rfl]
  refine eR.step 5 (F' := (70, [(0, .ref 23), (1, .int (nI 1)), (2, .int (nI 1))], [.int (nI 0), .int (nI 1), .ref 29])) (h' := (Wd C e P Q m N (tN e (tz R) 1) t Z)) (fun _ _ => rfl) ?_
  refine eR.st29 rfl (by omega) ?_
  show eR _ _ _ _ _ _ _ (Wd C e P Q m N (tR e R) t Z) _
  exact l_walkA hlo V 16 _ (tR e R) (tR_Z V.T R) (by omega)

