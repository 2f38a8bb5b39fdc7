theorem tB_hi {e : Nat → Nat} (h0 : lw e 3 9 55 ≠ 0) (x : Nat) (hx : 11 ≤ x) (h : x < 288) : tB e x = e x := by
  have L := lw_spec e 3 55 9 h0
  unfold tB tk
  rw [if_neg h0, if_neg h0, cz_ne _ _ _ _ (by omega), tb_ne _ _ _ _ (by omega)]
theorem po_ext {e g : Nat → Nat} (i w : Nat) (h : g (32 + (16 * i) + 10) = e (32 + (16 * i) + 10)) : po g i w = po e i w := by unfold po eo; rw [h]
theorem op_po (g : Nat → Nat) {e : Nat → Nat} {i w v : Nat} (hx : w < 6 ∨ e (32 + (16 * i) + 10) ≠ 0) : op g (eo e i w) v = dp g (po e i w) v := by
  unfold po eo
  by_cases h : w < 6
  · rw [if_pos h]; rfl
  · rw [if_neg h, if_neg (by omega)]; rfl
theorem rm_gb7 {e : Nat → Nat} {b : Nat} (h : 9 ≤ b ∧ b < 64) : rm e 3 b false = gb_7 e b := by
  unfold rm gb_7
  cases hb : bt e 3 b with
  | false => rw [if_pos rfl, if_neg (by simp)]
  | true => rw [if_neg (by simp), if_pos ⟨h, rfl⟩]
theorem rm_gb6 {e : Nat → Nat} {b : Nat} (h : 1 ≤ b ∧ b < 16) : rm e 1 b false = gb_6 e b := by
  unfold rm gb_6
  cases hb : bt e 1 b with
  | false => rw [if_pos rfl, if_neg (by simp)]
  | true => rw [if_neg (by simp), if_pos ⟨h, rfl⟩]
theorem m_fill {cm sm fr lo : Nat} {C : gC} {e : Nat → Nat} {P Q : gT} {m : Nat} {N : Nat → Nat} {R : gS} {t : Nat} {Z : mj_H} (hlo : 68 ≤ lo) (B : qB e) (M : qM e) {i : Nat} (hi : i < 16) {w : Nat} (hw : w < 38) (hh : bo e i w = 0) (hc : (if 6 ≤ w ∧ e (32 + (16 * i) + 10) = 0 then 1 else 0) + 1 ≤ cf e 3 9 55) : eE mm_P cm sm (fr + 5) lo 113 [.ref 23, .int (nI (i)), .int (nI (w))] (Wd C e P Q m N R t Z) (.inl (none), (Wd C (fh e i w) P Q m N R t Z)) := by
  obtain ⟨q1, q2, q3, q4, q5, q6⟩ := fh_hole B M i w hi hw hh hc
  have L1 := lw_spec (f1 e i w) 3 55 9 q2
  have hx := q4.b1 i 38 hi (by omega)
  rw [qb_ix] at hx
  have h64 : tB (f1 e i w) (32 + (16 * i) + 10) < 64 := by rw [tB_hi q2 _ (by omega) (by omega)]; omega
  have hpo : po (tB (f1 e i w)) i w = po (f1 e i w) i w := po_ext i w (tB_hi q2 _ (by omega) (by omega))
  have hpl := po_lt hi hw h64
  by_cases a6 : 6 ≤ w ∧ e (32 + (16 * i) + 10) = 0
  · refine eE.of ?_
    have p0 := q6 a6.1 a6.2
    have L0 := lw_spec e 3 55 9 p0
    refine eR.step 2 (F' := (3, [(0, .ref 23), (1, .int (nI (i))), (2, .int (nI (w)))], [.int (nI 6), .int (nI (w))])) (h' := (Wd C e P Q m N R t Z)) (fun _ _ => rfl) ?_
    refine eR.icmp rfl false ((nc_lt (by omega) (by omega)).trans (decide_eq_false (by omega))) ?_
    refine eR.step 3 (F' := (11, [(0, .ref 23), (1, .int (nI (i))), (2, .int (nI (w)))], [.int (nI (i)), .ref 24])) (h' := (Wd C e P Q m N R t Z)) (fun _ _ => rfl) ?_
    refine eR.call (k' := 111) (as := [.int (nI (i))]) (rest := [.ref 24]) (v := some (.int (nI (32 + (16 * i))))) (h1 := (Wd C e P Q m N R t Z)) rfl rfl rfl rfl (eg (Nat.le_of_ble_eq_true rfl) (show 20 ≤ lo by omega) (Nat.le_of_ble_eq_true rfl)) (m_at (by omega)) ?_
    refine eR.step 1 (F' := (16, [(0, .ref 23), (1, .int (nI (i))), (2, .int (nI (w)))], [.int (nI 10), .int (nI (32 + (16 * i))), .ref 24])) (h' := (Wd C e P Q m N R t Z)) (fun _ _ => rfl) ?_
    refine eR.nadd rfl ?_
    refine eR.ld24 rfl (by omega) ?_
    refine eR.ifc rfl false ((nc_ne (b := 0) (by omega) (by decide)).trans (decide_eq_false (by omega))) ?_
    refine eR.step 3 (F' := (26, [(0, .ref 23), (1, .int (nI (i))), (2, .int (nI (w)))], [.int (nI (i)), .ref 24])) (h' := (Wd C e P Q m N R t Z)) (fun _ _ => rfl) ?_
    refine eR.call (k' := 111) (as := [.int (nI (i))]) (rest := [.ref 24]) (v := some (.int (nI (32 + (16 * i))))) (h1 := (Wd C e P Q m N R t Z)) rfl rfl rfl rfl (eg (Nat.le_of_ble_eq_true rfl) (show 20 ≤ lo by omega) (Nat.le_of_ble_eq_true rfl)) (m_at (by omega)) ?_
    refine eR.step 1 (F' := (31, [(0, .ref 23), (1, .int (nI (i))), (2, .int (nI (w)))], [.int (nI 10), .int (nI (32 + (16 * i))), .ref 24])) (h' := (Wd C e P Q m N R t Z)) (fun _ _ => rfl) ?_
    refine eR.nadd rfl ?_
    refine eR.step 1 (F' := (33, [(0, .ref 23), (1, .int (nI (i))), (2, .int (nI (w)))], [.ref 23, .int (nI ((32 + (16 * i)) + 10)), .ref 24])) (h' := (Wd C e P Q m N R t Z)) (fun _ _ => rfl) ?_
    refine eR.call (k' := 114) (as := [.ref 23]) (rest := [.int (nI ((32 + (16 * i)) + 10)), .ref 24]) (v := some (.int (nI (lw e 3 9 55)))) (h1 := (Wd C (tB e) P Q m N R t Z)) rfl rfl rfl rfl (eg (Nat.le_of_ble_eq_true rfl) (show 22 ≤ lo by omega) (Nat.le_of_ble_eq_true rfl)) (m_takeB (show 46 ≤ lo - 22 by omega) B.dk B.m3 p0) ?_
    refine eR.st24 rfl (by omega) (by omega) ?_
    rw [show dp (tB e) (32 + (16 * i) + 10) (lw e 3 9 55) = f1 e i w from (if_pos a6).symm]
    refine eR.step 1 (F' := (38, [(0, .ref 23), (1, .int (nI (i))), (2, .int (nI (w)))], [.ref 23])) (h' := (Wd C (f1 e i w) P Q m N R t Z)) (fun _ _ => rfl) ?_
    refine eR.call (k' := 114) (as := [.ref 23]) (rest := []) (v := some (.int (nI (lw (f1 e i w) 3 9 55)))) (h1 := (Wd C (tB (f1 e i w)) P Q m N R t Z)) rfl rfl rfl rfl (eg (Nat.le_of_ble_eq_true rfl) (show 22 ≤ lo by omega) (Nat.le_of_ble_eq_true rfl)) (m_takeB (show 46 ≤ lo - 22 by omega) q4.dk q5 q2) ?_
    refine eR.step 6 (F' := (49, [(0, .ref 23), (1, .int (nI (i))), (2, .int (nI (w))), (3, .int (nI (lw (f1 e i w) 3 9 55)))], [.int (nI (w)), .int (nI (i)), .ref 23, .ref 24])) (h' := (Wd C (tB (f1 e i w)) P Q m N R t Z)) (fun _ _ => rfl) ?_
    refine eR.call (k' := 115) (as := [.ref 23, .int (nI (i)), .int (nI (w))]) (rest := [.ref 24]) (v := some (.int (nI (po (tB (f1 e i w)) i w)))) (h1 := (Wd C (tB (f1 e i w)) P Q m N R t Z)) rfl rfl rfl rfl (eg (Nat.le_of_ble_eq_true rfl) (show 23 ≤ lo by omega) (Nat.le_of_ble_eq_true rfl)) (m_place (show 20 ≤ lo - 23 by omega) hi hw h64) ?_
    refine eR.step 1 (F' := (53, [(0, .ref 23), (1, .int (nI (i))), (2, .int (nI (w))), (3, .int (nI (lw (f1 e i w) 3 9 55)))], [.int (nI (lw (f1 e i w) 3 9 55)), .int (nI (po (tB (f1 e i w)) i w)), .ref 24])) (h' := (Wd C (tB (f1 e i w)) P Q m N R t Z)) (fun _ _ => rfl) ?_
    refine eR.st24 rfl (by omega) (by omega) ?_
    rw [hpo, ← op_po (tB (f1 e i w)) q3, ← q1]
    exact eR.ret rfl rfl rfl
  · refine eE.of ?_
    have e1 : f1 e i w = e := if_neg a6
    by_cases a7 : 6 ≤ w
    · have h10 := B.dk.1 (32 + (16 * i) + 10)
      refine eR.step 2 (F' := (3, [(0, .ref 23), (1, .int (nI (i))), (2, .int (nI (w)))], [.int (nI 6), .int (nI (w))])) (h' := (Wd C e P Q m N R t Z)) (fun _ _ => rfl) ?_
      refine eR.icmp rfl false ((nc_lt (by omega) (by omega)).trans (decide_eq_false (by omega))) ?_
      refine eR.step 3 (F' := (11, [(0, .ref 23), (1, .int (nI (i))), (2, .int (nI (w)))], [.int (nI (i)), .ref 24])) (h' := (Wd C e P Q m N R t Z)) (fun _ _ => rfl) ?_
      refine eR.call (k' := 111) (as := [.int (nI (i))]) (rest := [.ref 24]) (v := some (.int (nI (32 + (16 * i))))) (h1 := (Wd C e P Q m N R t Z)) rfl rfl rfl rfl (eg (Nat.le_of_ble_eq_true rfl) (show 20 ≤ lo by omega) (Nat.le_of_ble_eq_true rfl)) (m_at (by omega)) ?_
      refine eR.step 1 (F' := (16, [(0, .ref 23), (1, .int (nI (i))), (2, .int (nI (w)))], [.int (nI 10), .int (nI (32 + (16 * i))), .ref 24])) (h' := (Wd C e P Q m N R t Z)) (fun _ _ => rfl) ?_
      refine eR.nadd rfl ?_
      refine eR.ld24 rfl (by omega) ?_
      refine eR.ifc rfl true ((nc_ne (b := 0) (by omega) (by decide)).trans (decide_eq_true (by omega))) ?_
      rw [show Wd C e P Q m N R t Z = Wd C (f1 e i w) P Q m N R t Z by rw [e1]]
      refine eR.step 1 (F' := (38, [(0, .ref 23), (1, .int (nI (i))), (2, .int (nI (w)))], [.ref 23])) (h' := (Wd C (f1 e i w) P Q m N R t Z)) (fun _ _ => rfl) ?_
      refine eR.call (k' := 114) (as := [.ref 23]) (rest := []) (v := some (.int (nI (lw (f1 e i w) 3 9 55)))) (h1 := (Wd C (tB (f1 e i w)) P Q m N R t Z)) rfl rfl rfl rfl (eg (Nat.le_of_ble_eq_true rfl) (show 22 ≤ lo by omega) (Nat.le_of_ble_eq_true rfl)) (m_takeB (show 46 ≤ lo - 22 by omega) q4.dk q5 q2) ?_
      refine eR.step 6 (F' := (49, [(0, .ref 23), (1, .int (nI (i))), (2, .int (nI (w))), (3, .int (nI (lw (f1 e i w) 3 9 55)))], [.int (nI (w)), .int (nI (i)), .ref 23, .ref 24])) (h' := (Wd C (tB (f1 e i w)) P Q m N R t Z)) (fun _ _ => rfl) ?_
      refine eR.call (k' := 115) (as := [.ref 23, .int (nI (i)), .int (nI (w))]) (rest := [.ref 24]) (v := some (.int (nI (po (tB (f1 e i w)) i w)))) (h1 := (Wd C (tB (f1 e i w)) P Q m N R t Z)) rfl rfl rfl rfl (eg (Nat.le_of_ble_eq_true rfl) (show 23 ≤ lo by omega) (Nat.le_of_ble_eq_true rfl)) (m_place (show 20 ≤ lo - 23 by omega) hi hw h64) ?_
      refine eR.step 1 (F' := (53, [(0, .ref 23), (1, .int (nI (i))), (2, .int (nI (w))), (3, .int (nI (lw (f1 e i w) 3 9 55)))], [.int (nI (lw (f1 e i w) 3 9 55)), .int (nI (po (tB (f1 e i w)) i w)), .ref 24])) (h' := (Wd C (tB (f1 e i w)) P Q m N R t Z)) (fun _ _ => rfl) ?_
      refine eR.st24 rfl (by omega) (by omega) ?_
      rw [hpo, ← op_po (tB (f1 e i w)) q3, ← q1]
      exact eR.ret rfl rfl rfl
    · refine eR.step 2 (F' := (3, [(0, .ref 23), (1, .int (nI (i))), (2, .int (nI (w)))], [.int (nI 6), .int (nI (w))])) (h' := (Wd C e P Q m N R t Z)) (fun _ _ => rfl) ?_
      refine eR.icmp rfl true ((nc_lt (by omega) (by omega)).trans (decide_eq_true (by omega))) ?_
      rw [show Wd C e P Q m N R t Z = Wd C (f1 e i w) P Q m N R t Z by rw [e1]]
      refine eR.step 1 (F' := (38, [(0, .ref 23), (1, .int (nI (i))), (2, .int (nI (w)))], [.ref 23])) (h' := (Wd C (f1 e i w) P Q m N R t Z)) (fun _ _ => rfl) ?_
      refine eR.call (k' := 114) (as := [.ref 23]) (rest := []) (v := some (.int (nI (lw (f1 e i w) 3 9 55)))) (h1 := (Wd C (tB (f1 e i w)) P Q m N R t Z)) rfl rfl rfl rfl (eg (Nat.le_of_ble_eq_true rfl) (show 22 ≤ lo by omega) (Nat.le_of_ble_eq_true rfl)) (m_takeB (show 46 ≤ lo - 22 by omega) q4.dk q5 q2) ?_
      refine eR.step 6 (F' := (49, [(0, .ref 23), (1, .int (nI (i))), (2, .int (nI (w))), (3, .int (nI (lw (f1 e i w) 3 9 55)))], [.int (nI (w)), .int (nI (i)), .ref 23, .ref 24])) (h' := (Wd C (tB (f1 e i w)) P Q m N R t Z)) (fun _ _ => rfl) ?_
      refine eR.call (k' := 115) (as := [.ref 23, .int (nI (i)), .int (nI (w))]) (rest := [.ref 24]) (v := some (.int (nI (po (tB (f1 e i w)) i w)))) (h1 := (Wd C (tB (f1 e i w)) P Q m N R t Z)) rfl rfl rfl rfl (eg (Nat.le_of_ble_eq_true rfl) (show 23 ≤ lo by omega) (Nat.le_of_ble_eq_true rfl)) (m_place (show 20 ≤ lo - 23 by omega) hi hw h64) ?_
      refine eR.step 1 (F' := (53, [(0, .ref 23), (1, .int (nI (i))), (2, .int (nI (w))), (3, .int (nI (lw (f1 e i w) 3 9 55)))], [.int (nI (lw (f1 e i w) 3 9 55)), .int (nI (po (tB (f1 e i w)) i w)), .ref 24])) (h' := (Wd C (tB (f1 e i w)) P Q m N R t Z)) (fun _ _ => rfl) ?_
      refine eR.st24 rfl (by omega) (by omega) ?_
      rw [hpo, ← op_po (tB (f1 e i w)) q3, ← q1]
      exact eR.ret rfl rfl rfl
theorem m_drop {cm sm fr lo : Nat} {C : gC} {e : Nat → Nat} {P Q : gT} {m : Nat} {N : Nat → Nat} {R : gS} {t : Nat} {Z : mj_H} (hlo : 66 ≤ lo) (he : dk e) {i : Nat} (hi : i < 16) {w : Nat} (hw : w < 38) (hx : e (32 + (16 * i) + 10) < 64) (hb : bo e i w = 0 ∨ (9 ≤ bo e i w ∧ bo e i w < 64)) : eE mm_P cm sm (fr + 4) lo 147 [.ref 23, .int (nI (i)), .int (nI (w))] (Wd C e P Q m N R t Z) (.inl (none), (Wd C (d1 e i w) P Q m N R t Z)) := by
  refine eE.of ?_
  refine eR.step 3 (F' := (3, [(0, .ref 23), (1, .int (nI (i))), (2, .int (nI (w)))], [.int (nI (w)), .int (nI (i)), .ref 23])) (h' := (Wd C e P Q m N R t Z)) (fun _ _ => rfl) ?_
  refine eR.call (k' := 118) (as := [.ref 23, .int (nI (i)), .int (nI (w))]) (rest := []) (v := some (.int (nI (bo e i w)))) (h1 := (Wd C e P Q m N R t Z)) rfl rfl rfl rfl (eg (Nat.le_of_ble_eq_true rfl) (show 23 ≤ lo by omega) (Nat.le_of_ble_eq_true rfl)) (m_blk (show 43 ≤ lo - 23 by omega) hi hw hx) ?_
  refine eR.step 2 (F' := (8, [(0, .ref 23), (1, .int (nI (i))), (2, .int (nI (w))), (3, .int (nI (bo e i w)))], [.int (nI (bo e i w))])) (h' := (Wd C e P Q m N R t Z)) (fun _ _ => rfl) ?_
  by_cases h : bo e i w = 0
  · rw [d1_0 e i w h]
    refine eR.ifc rfl true ((nc_eq (b := 0) (by omega) (by decide)).trans (decide_eq_true (by omega))) ?_
    exact eR.ret rfl rfl rfl
  · have hb2 : 9 ≤ bo e i w ∧ bo e i w < 64 := by omega
    have hx2 := (d1_1 e i w hw h).1
    have hg : gb_7 e (bo e i w) (32 + (16 * i) + 10) = e (32 + (16 * i) + 10) := gb_7_at _ _ _ (by omega)
    have hpo : po (gb_7 e (bo e i w)) i w = po e i w := po_ext i w hg
    have hpl := po_lt hi hw hx
    refine eR.ifc rfl false ((nc_eq (b := 0) (by omega) (by decide)).trans (decide_eq_false (by omega))) ?_
    refine eR.step 4 (F' := (15, [(0, .ref 23), (1, .int (nI (i))), (2, .int (nI (w))), (3, .int (nI (bo e i w)))], [.int (nI 0), .int (nI (bo e i w)), .int (nI 3), .ref 23])) (h' := (Wd C e P Q m N R t Z)) (fun _ _ => rfl) ?_
    refine eR.call (k' := 107) (as := [.ref 23, .int (nI 3), .int (nI (bo e i w)), .int (nI 0)]) (rest := []) (v := none) (h1 := (Wd C (rm e 3 (bo e i w) false) P Q m N R t Z)) rfl rfl rfl rfl (eg (Nat.le_of_ble_eq_true rfl) (show 24 ≤ lo by omega) (Nat.le_of_ble_eq_true rfl)) (m_mark0 he (by omega) (by omega)) ?_
    rw [rm_gb7 hb2]
    refine eR.step 5 (F' := (25, [(0, .ref 23), (1, .int (nI (i))), (2, .int (nI (w))), (3, .int (nI (bo e i w)))], [.int (nI (w)), .int (nI (i)), .ref 23, .ref 24])) (h' := (Wd C (gb_7 e (bo e i w)) P Q m N R t Z)) (fun _ _ => rfl) ?_
    refine eR.call (k' := 115) (as := [.ref 23, .int (nI (i)), .int (nI (w))]) (rest := [.ref 24]) (v := some (.int (nI (po (gb_7 e (bo e i w)) i w)))) (h1 := (Wd C (gb_7 e (bo e i w)) P Q m N R t Z)) rfl rfl rfl rfl (eg (Nat.le_of_ble_eq_true rfl) (show 23 ≤ lo by omega) (Nat.le_of_ble_eq_true rfl)) (m_place (show 20 ≤ lo - 23 by omega) hi hw (by rw [hg]; exact hx)) ?_
    refine eR.step 1 (F' := (29, [(0, .ref 23), (1, .int (nI (i))), (2, .int (nI (w))), (3, .int (nI (bo e i w)))], [.int (nI 0), .int (nI (po (gb_7 e (bo e i w)) i w)), .ref 24])) (h' := (Wd C (gb_7 e (bo e i w)) P Q m N R t Z)) (fun _ _ => rfl) ?_
    rw [hpo]
    refine eR.st24 rfl (by omega) (by decide) ?_
    rw [← op_po (gb_7 e (bo e i w)) hx2]
    rw [show op (gb_7 e (bo e i w)) (eo e i w) 0 = d1 e i w from rfl]
    exact eR.ret rfl rfl rfl
theorem l_mdA {cm sm fr lo : Nat} {C : gC} {P Q : gT} {m : Nat} {N : Nat → Nat} {R : gS} {t : Nat} {Z : mj_H} (hlo : 89 ≤ lo) {i : Nat} (hi : i < 16) {u : Nat} {r : mj_O × mj_H} : ∀ (q w : Nat) (e : Nat → Nat), qB e → (∀ i w, i < 16 → w ≤ 38 → qb e i w ≠ 0 → bt e 3 (qb e i w) = true) → w + q = 38 → eR mm_P cm sm (fr + 4) lo 146 (20, [(0, .ref 23), (1, .int (nI (i))), (2, .int (nI (u))), (3, .int (nI 38))], []) (Wd C (dl i e w q) P Q m N R t Z) r → eR mm_P cm sm (fr + 4) lo 146 (2, [(0, .ref 23), (1, .int (nI (i))), (2, .int (nI (u))), (3, .int (nI (w)))], []) (Wd C e P Q m N R t Z) r
  | 0, w, e, B, c2, h1, k => by
    have e0 : w = 38 := by omega
    subst e0
    refine eR.step 2 (F' := (5, [(0, .ref 23), (1, .int (nI (i))), (2, .int (nI (u))), (3, .int (nI 38))], [.int (nI 38), .int (nI 38)])) (h' := (Wd C e P Q m N R t Z)) (fun _ _ => rfl) ?_
    refine eR.icmp rfl true ((nc_ge (by omega) (by omega)).trans (decide_eq_true (by omega))) ?_
    exact k
  | q + 1, w, e, B, c2, h1, k => by
    have hx := B.b1 i 38 hi (by omega)
    rw [qb_ix] at hx
    have hb := B.b1 i w hi (by omega)
    rw [qb_bo _ _ _ (by omega)] at hb
    have D := (dl_drop i hi 1 e w B c2 (by omega)).1
    rw [dl, dl] at D
    refine eR.step 2 (F' := (5, [(0, .ref 23), (1, .int (nI (i))), (2, .int (nI (u))), (3, .int (nI (w)))], [.int (nI 38), .int (nI (w))])) (h' := (Wd C e P Q m N R t Z)) (fun _ _ => rfl) ?_
    refine eR.icmp rfl false ((nc_ge (by omega) (by omega)).trans (decide_eq_false (by omega))) ?_
    refine eR.step 3 (F' := (11, [(0, .ref 23), (1, .int (nI (i))), (2, .int (nI (u))), (3, .int (nI (w)))], [.int (nI (w)), .int (nI (i)), .ref 23])) (h' := (Wd C e P Q m N R t Z)) (fun _ _ => rfl) ?_
    refine eR.call (k' := 147) (as := [.ref 23, .int (nI (i)), .int (nI (w))]) (rest := []) (v := none) (h1 := (Wd C (d1 e i w) P Q m N R t Z)) rfl rfl rfl rfl (eg (Nat.le_of_ble_eq_true rfl) (show 23 ≤ lo by omega) (Nat.le_of_ble_eq_true rfl)) (m_drop (show 66 ≤ lo - 23 by omega) B.dk hi (by omega) (by omega) hb) ?_
    refine eR.step 1 (F' := (17, [(0, .ref 23), (1, .int (nI (i))), (2, .int (nI (u))), (3, .int (nI (w) + 1))], [])) (h' := (Wd C (d1 e i w) P Q m N R t Z)) (fun _ _ => rfl) ?_
    rw [show nI (w) + 1 = nI (w + 1) from nI_add (w) 1]
    refine eR.step 1 (F' := (2, [(0, .ref 23), (1, .int (nI (i))), (2, .int (nI (u))), (3, .int (nI (w + 1)))], [])) (h' := (Wd C (d1 e i w) P Q m N R t Z)) (fun _ _ => rfl) ?_
    exact l_mdA hlo hi q (w + 1) _ D.B D.c2 (by omega) k
theorem sp_ix (e : Nat → Nat) (i : Nat) (hx : e (32 + (16 * i) + 10) ≠ 0) : ∀ (n k : Nat), sp e i (k + 6) n = true ↔ ∃ j, k ≤ j ∧ j < k + n ∧ e (32 * e (32 + (16 * i) + 10) + j) ≠ 0 := by
  have hb : ∀ j, bo e i (j + 6) = e (32 * e (32 + (16 * i) + 10) + j) := by
    intro j
    rw [po_bo, po_hi (by omega) hx, if_neg (by omega), show e (32 + (16 * i) + 10) * 32 + (j + 6) - 6 = 32 * e (32 + (16 * i) + 10) + j by omega]
  intro n
  induction n with
  | zero => intro k; exact ⟨fun h => Bool.noConfusion h, fun ⟨j, h1, h2, _⟩ => by omega⟩
  | succ n ih =>
    intro k
    rw [sp, hb k]
    by_cases h : e (32 * e (32 + (16 * i) + 10) + k) = 0
    · rw [if_pos h, show k + 6 + 1 = k + 1 + 6 by omega, ih (k + 1)]
      constructor
      · rintro ⟨j, h1, h2, h3⟩; exact ⟨j, by omega, by omega, h3⟩
      · rintro ⟨j, h1, h2, h3⟩
        by_cases z : j = k
        · rw [z] at h3; exact absurd h h3
        · exact ⟨j, by omega, by omega, h3⟩
    · rw [if_neg h]; exact ⟨fun _ => ⟨k, by omega, by omega, h⟩, fun _ => rfl⟩
theorem l_mdB {cm sm fr lo : Nat} {C : gC} {e : Nat → Nat} {P Q : gT} {m : Nat} {N : Nat → Nat} {R : gS} {t : Nat} {Z : mj_H} (he : dk e) {i u x : Nat} (hx : x < 64) (hx0 : x ≠ 0) {r : mj_O × mj_H} : ∀ (q k : Nat) (b : Bool), k + q = 32 → (∀ b2 : Bool, (b2 = true ↔ b = true ∨ ∃ j, k ≤ j ∧ j < k + q ∧ e (32 * x + j) ≠ 0) → eR mm_P cm sm fr lo 146 (83, [(0, .ref 23), (1, .int (nI (i))), (2, .int (nI (u))), (3, .int (nI (x))), (4, .int (nI (bi b2))), (5, .int (nI 32))], []) (Wd C e P Q m N R t Z) r) → eR mm_P cm sm fr lo 146 (39, [(0, .ref 23), (1, .int (nI (i))), (2, .int (nI (u))), (3, .int (nI (x))), (4, .int (nI (bi b))), (5, .int (nI (k)))], []) (Wd C e P Q m N R t Z) r
  | 0, k, b, h1, w => by
    have e0 : k = 32 := by omega
    subst e0
    refine eR.step 2 (F' := (43, [(0, .ref 23), (1, .int (nI (i))), (2, .int (nI (u))), (3, .int (nI (x))), (4, .int (nI (bi b))), (5, .int (nI 32))], [.int (nI 32), .int (nI 32)])) (h' := (Wd C e P Q m N R t Z)) (fun _ _ => rfl) ?_
    refine eR.icmp rfl true ((nc_ge (by omega) (by omega)).trans (decide_eq_true (by omega))) ?_
    exact w b ⟨fun h => Or.inl h, fun h => h.elim id (fun ⟨j, h1, h2, _⟩ => by omega)⟩
  | q + 1, k, b, h1, w => by
    refine eR.step 2 (F' := (43, [(0, .ref 23), (1, .int (nI (i))), (2, .int (nI (u))), (3, .int (nI (x))), (4, .int (nI (bi b))), (5, .int (nI (k)))], [.int (nI 32), .int (nI (k))])) (h' := (Wd C e P Q m N R t Z)) (fun _ _ => rfl) ?_
    refine eR.icmp rfl false ((nc_ge (by omega) (by omega)).trans (decide_eq_false (by omega))) ?_
    refine eR.step 1 (F' := (47, [(0, .ref 23), (1, .int (nI (i))), (2, .int (nI (u))), (3, .int (nI (x))), (4, .int (nI (bi b))), (5, .int (nI (k)))], [.int (nI (x))])) (h' := (Wd C e P Q m N R t Z)) (fun _ _ => rfl) ?_
    refine eR.ifc rfl false ((nc_eq (b := 0) (by omega) (by decide)).trans (decide_eq_false (by omega))) ?_
    refine eR.step 1 (F' := (52, [(0, .ref 23), (1, .int (nI (i))), (2, .int (nI (u))), (3, .int (nI (x))), (4, .int (nI (bi b))), (5, .int (nI (k)))], [.int (nI (bi b))])) (h' := (Wd C e P Q m N R t Z)) (fun _ _ => rfl) ?_
    by_cases hb : b = true
    · refine eR.ifc rfl true (mb_nt hb) ?_
      refine eR.step 4 (F' := (80, [(0, .ref 23), (1, .int (nI (i))), (2, .int (nI (u))), (3, .int (nI (x))), (4, .int (nI 1)), (5, .int (nI (k) + 1))], [])) (h' := (Wd C e P Q m N R t Z)) (fun _ _ => rfl) ?_
      rw [show nI (k) + 1 = nI (k + 1) from nI_add (k) 1]
      refine eR.step 1 (F' := (39, [(0, .ref 23), (1, .int (nI (i))), (2, .int (nI (u))), (3, .int (nI (x))), (4, .int (nI 1)), (5, .int (nI (k + 1)))], [])) (h' := (Wd C e P Q m N R t Z)) (fun _ _ => rfl) ?_
      refine l_mdB he hx hx0 q (k + 1) true (by omega) (fun b2 h2 => w b2 (h2.trans ?_))
      exact ⟨fun _ => Or.inl hb, fun _ => Or.inl rfl⟩
    · refine eR.ifc rfl false (mb_nf hb) ?_
      have h6 := he.1 (32 * x + k)
      refine eR.step 4 (F' := (62, [(0, .ref 23), (1, .int (nI (i))), (2, .int (nI (u))), (3, .int (nI (x))), (4, .int (nI (bi b))), (5, .int (nI (k)))], [.int (nI (x)), .int (nI 32), .ref 24])) (h' := (Wd C e P Q m N R t Z)) (fun _ _ => rfl) ?_
      refine eR.nmul rfl ?_
      refine eR.step 1 (F' := (65, [(0, .ref 23), (1, .int (nI (i))), (2, .int (nI (u))), (3, .int (nI (x))), (4, .int (nI (bi b))), (5, .int (nI (k)))], [.int (nI (k)), .int (nI (32 * x)), .ref 24])) (h' := (Wd C e P Q m N R t Z)) (fun _ _ => rfl) ?_
      refine eR.nadd rfl ?_
      refine eR.ld24 rfl (by omega) ?_
      by_cases h : e (32 * x + k) = 0
      · refine eR.ifc rfl true ((nc_eq (b := 0) (by omega) (by decide)).trans (decide_eq_true (by omega))) ?_
        refine eR.step 3 (F' := (80, [(0, .ref 23), (1, .int (nI (i))), (2, .int (nI (u))), (3, .int (nI (x))), (4, .int (nI 0)), (5, .int (nI (k) + 1))], [])) (h' := (Wd C e P Q m N R t Z)) (fun _ _ => rfl) ?_
        rw [show nI (k) + 1 = nI (k + 1) from nI_add (k) 1]
        refine eR.step 1 (F' := (39, [(0, .ref 23), (1, .int (nI (i))), (2, .int (nI (u))), (3, .int (nI (x))), (4, .int (nI 0)), (5, .int (nI (k + 1)))], [])) (h' := (Wd C e P Q m N R t Z)) (fun _ _ => rfl) ?_
        refine l_mdB he hx hx0 q (k + 1) false (by omega) (fun b2 h2 => w b2 (h2.trans ?_))
        constructor
        · rintro (z | ⟨j, y1, y2, y3⟩)
          · exact Bool.noConfusion z
          · exact Or.inr ⟨j, by omega, by omega, y3⟩
        · rintro (z | ⟨j, y1, y2, y3⟩)
          · exact absurd z hb
          · by_cases y : j = k
            · rw [y] at y3; exact absurd h y3
            · exact Or.inr ⟨j, by omega, by omega, y3⟩
      · refine eR.ifc rfl false ((nc_eq (b := 0) (by omega) (by decide)).trans (decide_eq_false (by omega))) ?_
        refine eR.step 4 (F' := (80, [(0, .ref 23), (1, .int (nI (i))), (2, .int (nI (u))), (3, .int (nI (x))), (4, .int (nI 1)), (5, .int (nI (k) + 1))], [])) (h' := (Wd C e P Q m N R t Z)) (fun _ _ => rfl) ?_
        rw [show nI (k) + 1 = nI (k + 1) from nI_add (k) 1]
        refine eR.step 1 (F' := (39, [(0, .ref 23), (1, .int (nI (i))), (2, .int (nI (u))), (3, .int (nI (x))), (4, .int (nI 1)), (5, .int (nI (k + 1)))], [])) (h' := (Wd C e P Q m N R t Z)) (fun _ _ => rfl) ?_
        refine l_mdB he hx hx0 q (k + 1) true (by omega) (fun b2 h2 => w b2 (h2.trans ?_))
        exact ⟨fun _ => Or.inr ⟨k, by omega, by omega, h⟩, fun _ => Or.inl rfl⟩
theorem m_dropF {cm sm fr lo : Nat} {C : gC} {e : Nat → Nat} {P Q : gT} {m : Nat} {N : Nat → Nat} {R : gS} {t : Nat} {Z : mj_H} (hlo : 89 ≤ lo) (E : qE e) {i : Nat} (hi : i < 16) {u : Nat} (hu : u ≤ 38) : eE mm_P cm sm (fr + 5) lo 146 [.ref 23, .int (nI (i)), .int (nI (u))] (Wd C e P Q m N R t Z) (.inl (none), (Wd C (dr e i u) P Q m N R t Z)) := by
  refine eE.of ?_
  have D := (dl_drop i hi (38 - u) e u E.B E.M.c2 (by omega)).1
  have hx := D.B.b1 i 38 hi (by omega)
  rw [qb_ix] at hx
  refine eR.step 2 (F' := (2, [(0, .ref 23), (1, .int (nI (i))), (2, .int (nI (u))), (3, .int (nI (u)))], [])) (h' := (Wd C e P Q m N R t Z)) (fun _ _ => rfl) ?_
  refine l_mdA (show 89 ≤ lo by omega) hi (38 - u) u e E.B E.M.c2 (by omega) ?_
  show eR _ _ _ _ _ _ _ _ (_, Wd C (d2 (dl i e u (38 - u)) i) P Q m N R t Z)
  generalize hG : (dl i e u (38 - u)) = g at D hx ⊢
  refine eR.step 3 (F' := (25, [(0, .ref 23), (1, .int (nI (i))), (2, .int (nI (u))), (3, .int (nI 38))], [.int (nI (i)), .ref 24])) (h' := (Wd C g P Q m N R t Z)) (fun _ _ => rfl) ?_
  refine eR.call (k' := 111) (as := [.int (nI (i))]) (rest := [.ref 24]) (v := some (.int (nI (32 + (16 * i))))) (h1 := (Wd C g P Q m N R t Z)) rfl rfl rfl rfl (eg (Nat.le_of_ble_eq_true rfl) (show 20 ≤ lo by omega) (Nat.le_of_ble_eq_true rfl)) (m_at (by omega)) ?_
  refine eR.step 1 (F' := (30, [(0, .ref 23), (1, .int (nI (i))), (2, .int (nI (u))), (3, .int (nI 38))], [.int (nI 10), .int (nI (32 + (16 * i))), .ref 24])) (h' := (Wd C g P Q m N R t Z)) (fun _ _ => rfl) ?_
  refine eR.nadd rfl ?_
  refine eR.ld24 rfl (by omega) ?_
  refine eR.step 5 (F' := (39, [(0, .ref 23), (1, .int (nI (i))), (2, .int (nI (u))), (3, .int (nI (g ((32 + (16 * i)) + 10)))), (4, .int (nI 0)), (5, .int (nI 0))], [])) (h' := (Wd C g P Q m N R t Z)) (fun _ _ => rfl) ?_
  unfold d2
  by_cases h : g (32 + (16 * i) + 10) = 0
  · have hs : sp g i 6 32 = false := by cases hz : sp g i 6 32 with | false => rfl | true => (obtain ⟨v, v1, v2, v3⟩ := sp_yes g i 32 6 hz; exact absurd (bo_ix0 g i v v1 h) v3)
    rw [hs, if_neg Bool.noConfusion, h, gb_7_0, dp_same g _ h]
    refine eR.step 2 (F' := (43, [(0, .ref 23), (1, .int (nI (i))), (2, .int (nI (u))), (3, .int (nI 0)), (4, .int (nI 0)), (5, .int (nI 0))], [.int (nI 32), .int (nI 0)])) (h' := (Wd C g P Q m N R t Z)) (fun _ _ => rfl) ?_
    refine eR.icmp rfl false ((nc_ge (by omega) (by omega)).trans (decide_eq_false (by omega))) ?_
    refine eR.step 1 (F' := (47, [(0, .ref 23), (1, .int (nI (i))), (2, .int (nI (u))), (3, .int (nI 0)), (4, .int (nI 0)), (5, .int (nI 0))], [.int (nI 0)])) (h' := (Wd C g P Q m N R t Z)) (fun _ _ => rfl) ?_
    refine eR.ifc rfl true rfl ?_
    refine eR.step 1 (F' := (84, [(0, .ref 23), (1, .int (nI (i))), (2, .int (nI (u))), (3, .int (nI 0)), (4, .int (nI 0)), (5, .int (nI 0))], [.int (nI 0)])) (h' := (Wd C g P Q m N R t Z)) (fun _ _ => rfl) ?_
    refine eR.ifc rfl true rfl ?_
    exact eR.ret rfl rfl rfl
  · refine l_mdB D.B.dk (by omega) h 32 0 false (by omega) (fun b2 h2 => ?_)
    have hsp : sp g i 6 32 = b2 := by
      have h3 := sp_ix g i h 32 0
      have h4 : b2 = true ↔ sp g i (0 + 6) 32 = true := h2.trans (Iff.trans ⟨fun z => z.elim (fun y => Bool.noConfusion y) id, Or.inr⟩ h3.symm)
      exact Bool.eq_iff_iff.mpr h4.symm
    rw [hsp]
    refine eR.step 1 (F' := (84, [(0, .ref 23), (1, .int (nI (i))), (2, .int (nI (u))), (3, .int (nI (g ((32 + (16 * i)) + 10)))), (4, .int (nI (bi b2))), (5, .int (nI 32))], [.int (nI (g ((32 + (16 * i)) + 10)))])) (h' := (Wd C g P Q m N R t Z)) (fun _ _ => rfl) ?_
    refine eR.ifc rfl false ((nc_eq (b := 0) (by omega) (by decide)).trans (decide_eq_false (by omega))) ?_
    refine eR.step 1 (F' := (89, [(0, .ref 23), (1, .int (nI (i))), (2, .int (nI (u))), (3, .int (nI (g ((32 + (16 * i)) + 10)))), (4, .int (nI (bi b2))), (5, .int (nI 32))], [.int (nI (bi b2))])) (h' := (Wd C g P Q m N R t Z)) (fun _ _ => rfl) ?_
    by_cases hb : b2 = true
    · rw [if_pos hb]
      refine eR.ifc rfl true (mb_nt hb) ?_
      exact eR.ret rfl rfl rfl
    · rw [if_neg hb]
      refine eR.ifc rfl false (mb_nf hb) ?_
      refine eR.step 4 (F' := (96, [(0, .ref 23), (1, .int (nI (i))), (2, .int (nI (u))), (3, .int (nI (g ((32 + (16 * i)) + 10)))), (4, .int (nI (bi b2))), (5, .int (nI 32))], [.int (nI 0), .int (nI (g ((32 + (16 * i)) + 10))), .int (nI 3), .ref 23])) (h' := (Wd C g P Q m N R t Z)) (fun _ _ => rfl) ?_
      refine eR.call (k' := 107) (as := [.ref 23, .int (nI 3), .int (nI (g ((32 + (16 * i)) + 10))), .int (nI 0)]) (rest := []) (v := none) (h1 := (Wd C (rm g 3 (g (32 + (16 * i) + 10)) false) P Q m N R t Z)) rfl rfl rfl rfl (eg (Nat.le_of_ble_eq_true rfl) (show 24 ≤ lo by omega) (Nat.le_of_ble_eq_true rfl)) (m_mark0 D.B.dk (by omega) (by omega)) ?_
      rw [rm_gb7 (by omega)]
      refine eR.step 3 (F' := (104, [(0, .ref 23), (1, .int (nI (i))), (2, .int (nI (u))), (3, .int (nI (g ((32 + (16 * i)) + 10)))), (4, .int (nI (bi b2))), (5, .int (nI 32))], [.int (nI (i)), .ref 24])) (h' := (Wd C (gb_7 g (g (32 + (16 * i) + 10))) P Q m N R t Z)) (fun _ _ => rfl) ?_
      refine eR.call (k' := 111) (as := [.int (nI (i))]) (rest := [.ref 24]) (v := some (.int (nI (32 + (16 * i))))) (h1 := (Wd C (gb_7 g (g (32 + (16 * i) + 10))) P Q m N R t Z)) rfl rfl rfl rfl (eg (Nat.le_of_ble_eq_true rfl) (show 20 ≤ lo by omega) (Nat.le_of_ble_eq_true rfl)) (m_at (by omega)) ?_
      refine eR.step 1 (F' := (109, [(0, .ref 23), (1, .int (nI (i))), (2, .int (nI (u))), (3, .int (nI (g ((32 + (16 * i)) + 10)))), (4, .int (nI (bi b2))), (5, .int (nI 32))], [.int (nI 10), .int (nI (32 + (16 * i))), .ref 24])) (h' := (Wd C (gb_7 g (g (32 + (16 * i) + 10))) P Q m N R t Z)) (fun _ _ => rfl) ?_
      refine eR.nadd rfl ?_
      refine eR.step 1 (F' := (111, [(0, .ref 23), (1, .int (nI (i))), (2, .int (nI (u))), (3, .int (nI (g ((32 + (16 * i)) + 10)))), (4, .int (nI (bi b2))), (5, .int (nI 32))], [.int (nI 0), .int (nI ((32 + (16 * i)) + 10)), .ref 24])) (h' := (Wd C (gb_7 g (g (32 + (16 * i) + 10))) P Q m N R t Z)) (fun _ _ => rfl) ?_
      refine eR.st24 rfl (by omega) (by decide) ?_
      exact eR.ret rfl rfl rfl
theorem l_rmI {cm sm fr lo : Nat} {C : gC} {e : Nat → Nat} {P Q : gT} {m : Nat} {N : Nat → Nat} {R : gS} {t : Nat} {Z : mj_H} (hlo : 114 ≤ lo) (he : dk e) {i : Nat} (hi : i < 16) {r : mj_O × mj_H} : ∀ (q k : Nat), k + q = 16 → eR mm_P cm sm (fr + 1) lo 145 (32, [(0, .ref 23), (1, .int (nI (i))), (2, .int (nI 16))], []) (Wd C (cz e (32 + (16 * i)) 16) P Q m N R t Z) r → eR mm_P cm sm (fr + 1) lo 145 (8, [(0, .ref 23), (1, .int (nI (i))), (2, .int (nI (k)))], []) (Wd C (cz e (32 + (16 * i)) k) P Q m N R t Z) r
  | 0, k, h1, w => by
    have e0 : k = 16 := by omega
    subst e0
    refine eR.step 2 (F' := (11, [(0, .ref 23), (1, .int (nI (i))), (2, .int (nI 16))], [.int (nI 16), .int (nI 16)])) (h' := (Wd C (cz e (32 + (16 * i)) 16) P Q m N R t Z)) (fun _ _ => rfl) ?_
    refine eR.icmp rfl true ((nc_ge (by omega) (by omega)).trans (decide_eq_true (by omega))) ?_
    exact w
  | q + 1, k, h1, w => by
    refine eR.step 2 (F' := (11, [(0, .ref 23), (1, .int (nI (i))), (2, .int (nI (k)))], [.int (nI 16), .int (nI (k))])) (h' := (Wd C (cz e (32 + (16 * i)) k) P Q m N R t Z)) (fun _ _ => rfl) ?_
    refine eR.icmp rfl false ((nc_ge (by omega) (by omega)).trans (decide_eq_false (by omega))) ?_
    refine eR.step 3 (F' := (19, [(0, .ref 23), (1, .int (nI (i))), (2, .int (nI (k)))], [.int (nI (i)), .ref 24])) (h' := (Wd C (cz e (32 + (16 * i)) k) P Q m N R t Z)) (fun _ _ => rfl) ?_
    refine eR.call (k' := 111) (as := [.int (nI (i))]) (rest := [.ref 24]) (v := some (.int (nI (32 + (16 * i))))) (h1 := (Wd C (cz e (32 + (16 * i)) k) P Q m N R t Z)) rfl rfl rfl rfl (eg (Nat.le_of_ble_eq_true rfl) (show 20 ≤ lo by omega) (Nat.le_of_ble_eq_true rfl)) (m_at (by omega)) ?_
    refine eR.step 1 (F' := (23, [(0, .ref 23), (1, .int (nI (i))), (2, .int (nI (k)))], [.int (nI (k)), .int (nI (32 + (16 * i))), .ref 24])) (h' := (Wd C (cz e (32 + (16 * i)) k) P Q m N R t Z)) (fun _ _ => rfl) ?_
    refine eR.nadd rfl ?_
    refine eR.step 1 (F' := (25, [(0, .ref 23), (1, .int (nI (i))), (2, .int (nI (k)))], [.int (nI 0), .int (nI ((32 + (16 * i)) + k)), .ref 24])) (h' := (Wd C (cz e (32 + (16 * i)) k) P Q m N R t Z)) (fun _ _ => rfl) ?_
    refine eR.st24 rfl (by omega) (by decide) ?_
    rw [cz_s he]
    refine eR.step 1 (F' := (29, [(0, .ref 23), (1, .int (nI (i))), (2, .int (nI (k) + 1))], [])) (h' := (Wd C (cz e (32 + (16 * i)) (k + 1)) P Q m N R t Z)) (fun _ _ => rfl) ?_
    rw [show nI (k) + 1 = nI (k + 1) from nI_add (k) 1]
    refine eR.step 1 (F' := (8, [(0, .ref 23), (1, .int (nI (i))), (2, .int (nI (k + 1)))], [])) (h' := (Wd C (cz e (32 + (16 * i)) (k + 1)) P Q m N R t Z)) (fun _ _ => rfl) ?_
    exact l_rmI hlo he hi q (k + 1) (by omega) w
theorem m_rmI {cm sm fr lo : Nat} {C : gC} {e : Nat → Nat} {P Q : gT} {m : Nat} {N : Nat → Nat} {R : gS} {t : Nat} {Z : mj_H} (hlo : 114 ≤ lo) (E : qE e) {i : Nat} (hi : i < 16) (h0 : 1 ≤ i) : eE mm_P cm sm (fr + 6) lo 145 [.ref 23, .int (nI (i))] (Wd C e P Q m N R t Z) (.inl (none), (Wd C (gi e i) P Q m N R t Z)) := by
  refine eE.of ?_
  refine eR.step 3 (F' := (3, [(0, .ref 23), (1, .int (nI (i)))], [.int (nI 0), .int (nI (i)), .ref 23])) (h' := (Wd C e P Q m N R t Z)) (fun _ _ => rfl) ?_
  refine eR.call (k' := 146) (as := [.ref 23, .int (nI (i)), .int (nI 0)]) (rest := []) (v := none) (h1 := (Wd C (dr e i 0) P Q m N R t Z)) rfl rfl rfl rfl (eg (Nat.le_of_ble_eq_true rfl) (show 25 ≤ lo by omega) (Nat.le_of_ble_eq_true rfl)) (m_dropF (show 89 ≤ lo - 25 by omega) E hi (by omega)) ?_
  refine eR.step 2 (F' := (8, [(0, .ref 23), (1, .int (nI (i))), (2, .int (nI 0))], [])) (h' := (Wd C (dr e i 0) P Q m N R t Z)) (fun _ _ => rfl) ?_
  have k1 := dr_dk E.B.dk i 0
  rw [show Wd C (dr e i 0) P Q m N R t Z = Wd C (cz (dr e i 0) (32 + (16 * i)) 0) P Q m N R t Z by rw [cz_0]]
  refine l_rmI (show 114 ≤ lo by omega) k1 hi 16 0 (by omega) ?_
  refine eR.step 4 (F' := (36, [(0, .ref 23), (1, .int (nI (i))), (2, .int (nI 16))], [.int (nI 0), .int (nI (i)), .int (nI 1), .ref 23])) (h' := (Wd C (cz (dr e i 0) (32 + (16 * i)) 16) P Q m N R t Z)) (fun _ _ => rfl) ?_
  refine eR.call (k' := 107) (as := [.ref 23, .int (nI 1), .int (nI (i)), .int (nI 0)]) (rest := []) (v := none) (h1 := (Wd C (rm (cz (dr e i 0) (32 + (16 * i)) 16) 1 i false) P Q m N R t Z)) rfl rfl rfl rfl (eg (Nat.le_of_ble_eq_true rfl) (show 24 ≤ lo by omega) (Nat.le_of_ble_eq_true rfl)) (m_mark0 (cz_dk k1 _ _) (by omega) (by omega)) ?_
  rw [rm_gb6 ⟨h0, hi⟩]
  exact eR.ret rfl rfl rfl
theorem lw1_all {e : Nat → Nat} (m1 : bt e 1 0 = true) (h : lw e 1 1 15 ≠ 0) : ∀ k, k < lw e 1 1 15 → bt e 1 k = true := by
  intro k hk
  have L := lw_spec e 1 15 1 h
  by_cases a : k = 0
  · rw [a]; exact m1
  · exact L.2.2.2 k (by omega) hk
theorem m_newI {cm sm fr lo : Nat} {C : gC} {e : Nat → Nat} {P Q : gT} {m : Nat} {N : Nat → Nat} {R : gS} {t : Nat} {Z : mj_H} (hlo : 46 ≤ lo) (he : dk e) (m1 : bt e 1 0 = true) (h0 : lw e 1 1 15 ≠ 0) {k l : Nat} (hk : k < 256) (hl : l < 256) : eE mm_P cm sm (fr + 3) lo 108 [.ref 23, .int (nI (k)), .int (nI (l))] (Wd C e P Q m N R t Z) (.inl (some (.int (nI (lw e 1 1 15)))), (Wd C (dp (ti e k) (32 + (16 * (lw e 1 1 15)) + 1) l) P Q m N R t Z)) := by
  refine eE.of ?_
  have L := lw_spec e 1 15 1 h0
  have e1 : ti e k = dp (tb e 1 (lw e 1 1 15)) (32 + (16 * (lw e 1 1 15))) k := by unfold ti tk; rw [if_neg h0, if_neg h0]
  refine eR.step 2 (F' := (2, [(0, .ref 23), (1, .int (nI (k))), (2, .int (nI (l)))], [.int (nI 1), .ref 23])) (h' := (Wd C e P Q m N R t Z)) (fun _ _ => rfl) ?_
  refine eR.call (k' := 109) (as := [.ref 23, .int (nI 1)]) (rest := []) (v := some (.int (nI (lw e 1 1 15)))) (h1 := (Wd C (tb e 1 (lw e 1 1 15)) P Q m N R t Z)) rfl rfl rfl rfl (eg (Nat.le_of_ble_eq_true rfl) (show 22 ≤ lo by omega) (Nat.le_of_ble_eq_true rfl)) (m_take (show 24 ≤ lo - 22 by omega) he (n := lw e 1 1 15) (by omega) (by omega) (lw1_all m1 h0) L.2.2.1) ?_
  refine eR.step 4 (F' := (11, [(0, .ref 23), (1, .int (nI (k))), (2, .int (nI (l))), (3, .int (nI (lw e 1 1 15)))], [.int (nI (lw e 1 1 15)), .ref 24])) (h' := (Wd C (tb e 1 (lw e 1 1 15)) P Q m N R t Z)) (fun _ _ => rfl) ?_
  refine eR.call (k' := 111) (as := [.int (nI (lw e 1 1 15))]) (rest := [.ref 24]) (v := some (.int (nI (32 + (16 * (lw e 1 1 15)))))) (h1 := (Wd C (tb e 1 (lw e 1 1 15)) P Q m N R t Z)) rfl rfl rfl rfl (eg (Nat.le_of_ble_eq_true rfl) (show 20 ≤ lo by omega) (Nat.le_of_ble_eq_true rfl)) (m_at (by omega)) ?_
  refine eR.step 1 (F' := (15, [(0, .ref 23), (1, .int (nI (k))), (2, .int (nI (l))), (3, .int (nI (lw e 1 1 15)))], [.int (nI (k)), .int (nI (32 + (16 * (lw e 1 1 15)))), .ref 24])) (h' := (Wd C (tb e 1 (lw e 1 1 15)) P Q m N R t Z)) (fun _ _ => rfl) ?_
  refine eR.st24 rfl (by omega) (by omega) ?_
  rw [← e1]
  refine eR.step 3 (F' := (21, [(0, .ref 23), (1, .int (nI (k))), (2, .int (nI (l))), (3, .int (nI (lw e 1 1 15)))], [.int (nI (lw e 1 1 15)), .ref 24])) (h' := (Wd C (ti e k) P Q m N R t Z)) (fun _ _ => rfl) ?_
  refine eR.call (k' := 111) (as := [.int (nI (lw e 1 1 15))]) (rest := [.ref 24]) (v := some (.int (nI (32 + (16 * (lw e 1 1 15)))))) (h1 := (Wd C (ti e k) P Q m N R t Z)) rfl rfl rfl rfl (eg (Nat.le_of_ble_eq_true rfl) (show 20 ≤ lo by omega) (Nat.le_of_ble_eq_true rfl)) (m_at (by omega)) ?_
  refine eR.step 1 (F' := (25, [(0, .ref 23), (1, .int (nI (k))), (2, .int (nI (l))), (3, .int (nI (lw e 1 1 15)))], [.int (nI 1), .int (nI (32 + (16 * (lw e 1 1 15)))), .ref 24])) (h' := (Wd C (ti e k) P Q m N R t Z)) (fun _ _ => rfl) ?_
  refine eR.nadd rfl ?_
  refine eR.step 1 (F' := (27, [(0, .ref 23), (1, .int (nI (k))), (2, .int (nI (l))), (3, .int (nI (lw e 1 1 15)))], [.int (nI (l)), .int (nI ((32 + (16 * (lw e 1 1 15))) + 1)), .ref 24])) (h' := (Wd C (ti e k) P Q m N R t Z)) (fun _ _ => rfl) ?_
  refine eR.st24 rfl (by omega) (by omega) ?_
  refine eR.step 1 (F' := (29, [(0, .ref 23), (1, .int (nI (k))), (2, .int (nI (l))), (3, .int (nI (lw e 1 1 15)))], [.int (nI (lw e 1 1 15))])) (h' := (Wd C (dp (ti e k) ((32 + (16 * (lw e 1 1 15))) + 1) (l)) P Q m N R t Z)) (fun _ _ => rfl) ?_
  exact eR.ret rfl rfl rfl
theorem m_first {cm sm fr lo : Nat} {C : gC} {e : Nat → Nat} {P Q : gT} {m : Nat} {N : Nat → Nat} {R : gS} {t : Nat} {Z : mj_H} (hlo : 91 ≤ lo) (B : qB e) (M : qM e) {i : Nat} (hi : i < 16) {p : Nat} (hp : p < 16) (hh : bo e i 0 = 0) (hc : 1 ≤ cf e 3 9 55) (hD : gD (ss (fh e i 0) i 16) i) : eE mm_P cm sm (fr + 6) lo 112 [.ref 23, .int (nI (i)), .int (nI (p))] (Wd C e P Q m N R t Z) (.inl (none), (Wd C (rF e i p) P Q m N R t Z)) := by
  refine eE.of ?_
  have hs : sa (ss (fh e i 0) i 16) i 0 + 32 ≤ 2048 := by have h5 := hD.2.2.2.2 (0 / 4) (by omega); unfold sa; omega
  refine eR.step 3 (F' := (3, [(0, .ref 23), (1, .int (nI (i))), (2, .int (nI (p)))], [.int (nI 0), .int (nI (i)), .ref 23])) (h' := (Wd C e P Q m N R t Z)) (fun _ _ => rfl) ?_
  refine eR.call (k' := 113) (as := [.ref 23, .int (nI (i)), .int (nI 0)]) (rest := []) (v := none) (h1 := (Wd C (fh e i 0) P Q m N R t Z)) rfl rfl rfl rfl (eg (Nat.le_of_ble_eq_true rfl) (show 23 ≤ lo by omega) (Nat.le_of_ble_eq_true rfl)) (m_fill (show 68 ≤ lo - 23 by omega) B M hi (by omega) hh (by rw [if_neg (by omega)]; omega)) ?_
  refine eR.step 3 (F' := (10, [(0, .ref 23), (1, .int (nI (i))), (2, .int (nI (p)))], [.int (nI 16), .int (nI (i)), .ref 23])) (h' := (Wd C (fh e i 0) P Q m N R t Z)) (fun _ _ => rfl) ?_
  refine eR.call (k' := 116) (as := [.ref 23, .int (nI (i)), .int (nI 16)]) (rest := []) (v := none) (h1 := (Wd C (ss (fh e i 0) i 16) P Q m N R t Z)) rfl rfl rfl rfl (eg (Nat.le_of_ble_eq_true rfl) (show 22 ≤ lo by omega) (Nat.le_of_ble_eq_true rfl)) (m_setSize (show 20 ≤ lo - 22 by omega) hi (by decide)) ?_
  refine eR.step 3 (F' := (16, [(0, .ref 23), (1, .int (nI (i))), (2, .int (nI (p)))], [.int (nI 0), .int (nI (i)), .ref 23])) (h' := (Wd C (ss (fh e i 0) i 16) P Q m N R t Z)) (fun _ _ => rfl) ?_
  refine eR.call (k' := 117) (as := [.ref 23, .int (nI (i)), .int (nI 0)]) (rest := []) (v := some (.int (nI (sa (ss (fh e i 0) i 16) i 0)))) (h1 := (Wd C (ss (fh e i 0) i 16) P Q m N R t Z)) rfl rfl rfl rfl (eg (Nat.le_of_ble_eq_true rfl) (show 22 ≤ lo by omega) (Nat.le_of_ble_eq_true rfl)) (m_slotAt (show 66 ≤ lo - 22 by omega) hD (by omega)) ?_
  refine eR.step 5 (F' := (26, [(0, .ref 23), (1, .int (nI (i))), (2, .int (nI (p))), (3, .int (nI (sa (ss (fh e i 0) i 16) i 0)))], [.int (nI (i)), .int (nI (sa (ss (fh e i 0) i 16) i 0)), .ref 24])) (h' := (Wd C (ss (fh e i 0) i 16) P Q m N R t Z)) (fun _ _ => rfl) ?_
  refine eR.st24 rfl (by omega) (by omega) ?_
  refine eR.step 4 (F' := (33, [(0, .ref 23), (1, .int (nI (i))), (2, .int (nI (p))), (3, .int (nI (sa (ss (fh e i 0) i 16) i 0)))], [.int (nI 1), .int (nI (sa (ss (fh e i 0) i 16) i 0)), .ref 24])) (h' := (Wd C (dp (ss (fh e i 0) i 16) (sa (ss (fh e i 0) i 16) i 0) (i)) P Q m N R t Z)) (fun _ _ => rfl) ?_
  refine eR.nadd rfl ?_
  refine eR.step 1 (F' := (36, [(0, .ref 23), (1, .int (nI (i))), (2, .int (nI (p))), (3, .int (nI (sa (ss (fh e i 0) i 16) i 0)))], [.int (nI 46), .int (nI ((sa (ss (fh e i 0) i 16) i 0) + 1)), .ref 24])) (h' := (Wd C (dp (ss (fh e i 0) i 16) (sa (ss (fh e i 0) i 16) i 0) (i)) P Q m N R t Z)) (fun _ _ => rfl) ?_
  refine eR.st24 rfl (by omega) (by decide) ?_
  refine eR.step 4 (F' := (44, [(0, .ref 23), (1, .int (nI (i))), (2, .int (nI (p))), (3, .int (nI (sa (ss (fh e i 0) i 16) i 0)))], [.int (nI 8), .int (nI (sa (ss (fh e i 0) i 16) i 0)), .ref 24])) (h' := (Wd C (dp (dp (ss (fh e i 0) i 16) (sa (ss (fh e i 0) i 16) i 0) (i)) ((sa (ss (fh e i 0) i 16) i 0) + 1) (46)) P Q m N R t Z)) (fun _ _ => rfl) ?_
  refine eR.nadd rfl ?_
  refine eR.step 1 (F' := (46, [(0, .ref 23), (1, .int (nI (i))), (2, .int (nI (p))), (3, .int (nI (sa (ss (fh e i 0) i 16) i 0)))], [.int (nI (p)), .int (nI ((sa (ss (fh e i 0) i 16) i 0) + 8)), .ref 24])) (h' := (Wd C (dp (dp (ss (fh e i 0) i 16) (sa (ss (fh e i 0) i 16) i 0) (i)) ((sa (ss (fh e i 0) i 16) i 0) + 1) (46)) P Q m N R t Z)) (fun _ _ => rfl) ?_
  refine eR.st24 rfl (by omega) (by omega) ?_
  refine eR.step 4 (F' := (54, [(0, .ref 23), (1, .int (nI (i))), (2, .int (nI (p))), (3, .int (nI (sa (ss (fh e i 0) i 16) i 0)))], [.int (nI 9), .int (nI (sa (ss (fh e i 0) i 16) i 0)), .ref 24])) (h' := (Wd C (dp (dp (dp (ss (fh e i 0) i 16) (sa (ss (fh e i 0) i 16) i 0) (i)) ((sa (ss (fh e i 0) i 16) i 0) + 1) (46)) ((sa (ss (fh e i 0) i 16) i 0) + 8) (p)) P Q m N R t Z)) (fun _ _ => rfl) ?_
  refine eR.nadd rfl ?_
  refine eR.step 1 (F' := (57, [(0, .ref 23), (1, .int (nI (i))), (2, .int (nI (p))), (3, .int (nI (sa (ss (fh e i 0) i 16) i 0)))], [.int (nI 46), .int (nI ((sa (ss (fh e i 0) i 16) i 0) + 9)), .ref 24])) (h' := (Wd C (dp (dp (dp (ss (fh e i 0) i 16) (sa (ss (fh e i 0) i 16) i 0) (i)) ((sa (ss (fh e i 0) i 16) i 0) + 1) (46)) ((sa (ss (fh e i 0) i 16) i 0) + 8) (p)) P Q m N R t Z)) (fun _ _ => rfl) ?_
  refine eR.st24 rfl (by omega) (by decide) ?_
  refine eR.step 4 (F' := (65, [(0, .ref 23), (1, .int (nI (i))), (2, .int (nI (p))), (3, .int (nI (sa (ss (fh e i 0) i 16) i 0)))], [.int (nI 10), .int (nI (sa (ss (fh e i 0) i 16) i 0)), .ref 24])) (h' := (Wd C (dp (dp (dp (dp (ss (fh e i 0) i 16) (sa (ss (fh e i 0) i 16) i 0) (i)) ((sa (ss (fh e i 0) i 16) i 0) + 1) (46)) ((sa (ss (fh e i 0) i 16) i 0) + 8) (p)) ((sa (ss (fh e i 0) i 16) i 0) + 9) (46)) P Q m N R t Z)) (fun _ _ => rfl) ?_
  refine eR.nadd rfl ?_
  refine eR.step 1 (F' := (68, [(0, .ref 23), (1, .int (nI (i))), (2, .int (nI (p))), (3, .int (nI (sa (ss (fh e i 0) i 16) i 0)))], [.int (nI 46), .int (nI ((sa (ss (fh e i 0) i 16) i 0) + 10)), .ref 24])) (h' := (Wd C (dp (dp (dp (dp (ss (fh e i 0) i 16) (sa (ss (fh e i 0) i 16) i 0) (i)) ((sa (ss (fh e i 0) i 16) i 0) + 1) (46)) ((sa (ss (fh e i 0) i 16) i 0) + 8) (p)) ((sa (ss (fh e i 0) i 16) i 0) + 9) (46)) P Q m N R t Z)) (fun _ _ => rfl) ?_
  refine eR.st24 rfl (by omega) (by decide) ?_
  exact eR.ret rfl rfl rfl
theorem l_addS {cm sm fr lo : Nat} {C : gC} {P Q : gT} {m : Nat} {N : Nat → Nat} {R : gS} {t : Nat} {Z : mj_H} (hN : ∀ k, N k < 256) (hm : 1 ≤ m) (hm2 : m ≤ 20) {p v j a : Nat} (ha : a + 8 ≤ 2048) : ∀ (q k : Nat) (e : Nat → Nat), k + q = 7 → eR mm_P cm sm fr lo 138 (61, [(0, .ref 23), (1, .int (nI (p))), (2, .int (nI (v))), (3, .int (nI (j))), (4, .int (nI (a))), (5, .int (nI (k)))], []) (Wd C e P Q m N R t Z) (.inl none, (Wd C (wn a (fun q => N (7 * (m - 1) + q)) e k q) P Q m N R t Z))
  | 0, k, e, h1 => by
    refine eR.step 2 (F' := (65, [(0, .ref 23), (1, .int (nI (p))), (2, .int (nI (v))), (3, .int (nI (j))), (4, .int (nI (a))), (5, .int (nI (k)))], [.int (nI 7), .int (nI (k))])) (h' := (Wd C e P Q m N R t Z)) (fun _ _ => rfl) ?_
    refine eR.icmp rfl true ((nc_ge (by omega) (by omega)).trans (decide_eq_true (by omega))) ?_
    exact eR.ret rfl rfl rfl
  | q + 1, k, e, h1 => by
    have h7 := hN (7 * (m - 1) + k)
    refine eR.step 2 (F' := (65, [(0, .ref 23), (1, .int (nI (p))), (2, .int (nI (v))), (3, .int (nI (j))), (4, .int (nI (a))), (5, .int (nI (k)))], [.int (nI 7), .int (nI (k))])) (h' := (Wd C e P Q m N R t Z)) (fun _ _ => rfl) ?_
    refine eR.icmp rfl false ((nc_ge (by omega) (by omega)).trans (decide_eq_false (by omega))) ?_
    refine eR.step 4 (F' := (75, [(0, .ref 23), (1, .int (nI (p))), (2, .int (nI (v))), (3, .int (nI (j))), (4, .int (nI (a))), (5, .int (nI (k)))], [.int (nI 1), .int (nI (a)), .ref 24])) (h' := (Wd C e P Q m N R t Z)) (fun _ _ => rfl) ?_
    refine eR.nadd rfl ?_
    refine eR.step 1 (F' := (78, [(0, .ref 23), (1, .int (nI (p))), (2, .int (nI (v))), (3, .int (nI (j))), (4, .int (nI (a))), (5, .int (nI (k)))], [.int (nI (k)), .int (nI (a + 1)), .ref 24])) (h' := (Wd C e P Q m N R t Z)) (fun _ _ => rfl) ?_
    refine eR.nadd rfl ?_
    refine eR.step 6 (F' := (90, [(0, .ref 23), (1, .int (nI (p))), (2, .int (nI (v))), (3, .int (nI (j))), (4, .int (nI (a))), (5, .int (nI (k)))], [.int (nI 1), .int (nI (m)), .int (nI 7), .ref 27, .int (nI ((a + 1) + k)), .ref 24])) (h' := (Wd C e P Q m N R t Z)) (fun _ _ => rfl) ?_
    refine eR.nsub rfl (by omega) ?_
    refine eR.nmul rfl ?_
    refine eR.step 1 (F' := (94, [(0, .ref 23), (1, .int (nI (p))), (2, .int (nI (v))), (3, .int (nI (j))), (4, .int (nI (a))), (5, .int (nI (k)))], [.int (nI (k)), .int (nI (7 * (m - 1))), .ref 27, .int (nI ((a + 1) + k)), .ref 24])) (h' := (Wd C e P Q m N R t Z)) (fun _ _ => rfl) ?_
    refine eR.nadd rfl ?_
    refine eR.ld27 rfl (by omega) ?_
    refine eR.st24 rfl (by omega) (by omega) ?_
    refine eR.step 1 (F' := (100, [(0, .ref 23), (1, .int (nI (p))), (2, .int (nI (v))), (3, .int (nI (j))), (4, .int (nI (a))), (5, .int (nI (k) + 1))], [])) (h' := (Wd C (dp e ((a + 1) + k) (N ((7 * (m - 1)) + k))) P Q m N R t Z)) (fun _ _ => rfl) ?_
    rw [show nI (k) + 1 = nI (k + 1) from nI_add (k) 1]
    refine eR.step 1 (F' := (61, [(0, .ref 23), (1, .int (nI (p))), (2, .int (nI (v))), (3, .int (nI (j))), (4, .int (nI (a))), (5, .int (nI (k + 1)))], [])) (h' := (Wd C (dp e ((a + 1) + k) (N ((7 * (m - 1)) + k))) P Q m N R t Z)) (fun _ _ => rfl) ?_
    exact l_addS hN hm hm2 ha q (k + 1) _ (by omega)
theorem nsl_fs {e : Nat → Nat} {p : Nat} (h : ¬ fs e p 0 2 (sn e p - 2) = 0) : nsl e p = fs e p 0 2 (sn e p - 2) := by
  unfold nsl
  rw [fs_e e p _ (sn e p - 2) 2 (by omega), if_pos h]
theorem nsl_sn {e : Nat → Nat} {p : Nat} (h : fs e p 0 2 (sn e p - 2) = 0) (hn : nsl e p ≠ 0) : nsl e p = sn e p ∧ sn e p < 24 := by
  unfold nsl at hn ⊢
  rw [fs_e e p _ (sn e p - 2) 2 (by omega), if_neg (fun z => z h)] at hn ⊢
  by_cases a : sn e p < 24
  · rw [if_pos a]; exact ⟨rfl, a⟩
  · rw [if_neg a] at hn; exact absurd rfl hn
theorem m_addS {cm sm fr lo : Nat} {C : gC} {e : Nat → Nat} {P Q : gT} {m : Nat} {N : Nat → Nat} {R : gS} {t : Nat} {Z : mj_H} (hlo : 110 ≤ lo) (E : qE e) (hN : ∀ k, N k < 256) (hm : 1 ≤ m) (hm2 : m ≤ 20) {p v : Nat} (hp : p < 16) (hk : e (32 + (16 * p)) = 2) (hv : v < 256) (hn : nsl e p ≠ 0) (hc : bw e p (nsl e p / 4) (nsl e p / 4) ≤ cf e 3 9 55) : eE mm_P cm sm (fr + 6) lo 138 [.ref 23, .int (nI (p)), .int (nI (v))] (Wd C e P Q m N R t Z) (.inl (none), (Wd C (rA e p v (fun q => N (7 * (m - 1) + q))) P Q m N R t Z)) := by
  have W := a1_E E p hp hk hn hc
  have hD := gD_of E hp hk
  have k2 : a1 e p (32 + (16 * p)) = 2 := by rw [show a1 e p (32 + (16 * p)) = e (32 + (16 * p)) from W.T p 0 hp (by omega) (by omega)]; exact hk
  have hD2 := gD_of W.E hp k2
  have r := E.R.dr p hp hk
  have ns := nsl_spec e p r.2.2.1 hn
  have hs := sa_2040 hD2 ns.2.1
  have h24 := sn_le e p
  have h25 := fs_b e p (sn e p - 2) 2
  refine eE.of ?_
  refine eR.step 2 (F' := (2, [(0, .ref 23), (1, .int (nI (p))), (2, .int (nI (v)))], [.int (nI (p)), .ref 23])) (h' := (Wd C e P Q m N R t Z)) (fun _ _ => rfl) ?_
  refine eR.call (k' := 135) (as := [.ref 23, .int (nI (p))]) (rest := []) (v := some (.int (fi (fs e p 0 2 (sn e p - 2))))) (h1 := (Wd C e P Q m N R t Z)) rfl rfl rfl rfl (eg (Nat.le_of_ble_eq_true rfl) (show 22 ≤ lo by omega) (Nat.le_of_ble_eq_true rfl)) (m_freeS (show 88 ≤ lo - 22 by omega) E.B.dk hD) ?_
  refine eR.step 2 (F' := (7, [(0, .ref 23), (1, .int (nI (p))), (2, .int (nI (v))), (3, .int (fi (fs e p 0 2 (sn e p - 2))))], [.int (fi (fs e p 0 2 (sn e p - 2)))])) (h' := (Wd C e P Q m N R t Z)) (fun _ _ => rfl) ?_
  by_cases h : fs e p 0 2 (sn e p - 2) = 0
  · have hs2 := nsl_sn h hn
    refine eR.ifc rfl false (mc_gi0 h) ?_
    refine eR.step 2 (F' := (12, [(0, .ref 23), (1, .int (nI (p))), (2, .int (nI (v))), (3, .int (fi (fs e p 0 2 (sn e p - 2))))], [.int (nI (p)), .ref 23])) (h' := (Wd C e P Q m N R t Z)) (fun _ _ => rfl) ?_
    refine eR.call (k' := 130) (as := [.ref 23, .int (nI (p))]) (rest := []) (v := some (.int (nI (sn e p)))) (h1 := (Wd C e P Q m N R t Z)) rfl rfl rfl rfl (eg (Nat.le_of_ble_eq_true rfl) (show 21 ≤ lo by omega) (Nat.le_of_ble_eq_true rfl)) (m_slots (show 41 ≤ lo - 21 by omega) E.B.dk hD) ?_
    refine eR.step 3 (F' := (18, [(0, .ref 23), (1, .int (nI (p))), (2, .int (nI (v))), (3, .int (nI (sn e p)))], [.int (nI 4), .int (nI (sn e p))])) (h' := (Wd C e P Q m N R t Z)) (fun _ _ => rfl) ?_
    refine eR.nrem rfl (by omega) (by decide) (by decide) ?_
    rw [hs2.1] at hc
    rw [bw_dir e p _ (by omega)] at hc
    by_cases h4 : sn e p % 4 = 0
    · have hz : bo e p (sn e p / 4) = 0 := by
        rw [bo_lo e p _ (by omega)]
        by_cases z : e (32 + (16 * p) + 4 + sn e p / 4) = 0
        · exact z
        · have := (r.2.2.2 (sn e p / 4) (by omega)).mp z; omega
      rw [if_pos hz] at hc
      refine eR.ifc rfl false ((nc_ne (b := 0) (by omega) (by decide)).trans (decide_eq_false (by omega))) ?_
      refine eR.step 4 (F' := (26, [(0, .ref 23), (1, .int (nI (p))), (2, .int (nI (v))), (3, .int (nI (sn e p)))], [.int (nI 4), .int (nI (sn e p)), .int (nI (p)), .ref 23])) (h' := (Wd C e P Q m N R t Z)) (fun _ _ => rfl) ?_
      refine eR.ndiv rfl (by omega) (by decide) (by decide) ?_
      refine eR.call (k' := 113) (as := [.ref 23, .int (nI (p)), .int (nI ((sn e p) / 4))]) (rest := []) (v := none) (h1 := (Wd C (fh e p (sn e p / 4)) P Q m N R t Z)) rfl rfl rfl rfl (eg (Nat.le_of_ble_eq_true rfl) (show 23 ≤ lo by omega) (Nat.le_of_ble_eq_true rfl)) (m_fill (show 68 ≤ lo - 23 by omega) E.B E.M hp (by omega) hz (by rw [if_neg (by omega)]; omega)) ?_
      refine eR.step 4 (F' := (35, [(0, .ref 23), (1, .int (nI (p))), (2, .int (nI (v))), (3, .int (nI (sn e p)))], [.int (nI (sn e p)), .int (nI 8), .int (nI (p)), .ref 23])) (h' := (Wd C (fh e p (sn e p / 4)) P Q m N R t Z)) (fun _ _ => rfl) ?_
      refine eR.nmul rfl ?_
      refine eR.step 1 (F' := (38, [(0, .ref 23), (1, .int (nI (p))), (2, .int (nI (v))), (3, .int (nI (sn e p)))], [.int (nI 8), .int (nI (8 * (sn e p))), .int (nI (p)), .ref 23])) (h' := (Wd C (fh e p (sn e p / 4)) P Q m N R t Z)) (fun _ _ => rfl) ?_
      refine eR.nadd rfl ?_
      refine eR.call (k' := 116) (as := [.ref 23, .int (nI (p)), .int (nI ((8 * (sn e p)) + 8))]) (rest := []) (v := none) (h1 := (Wd C (ss (fh e p (sn e p / 4)) p (8 * sn e p + 8)) P Q m N R t Z)) rfl rfl rfl rfl (eg (Nat.le_of_ble_eq_true rfl) (show 22 ≤ lo by omega) (Nat.le_of_ble_eq_true rfl)) (m_setSize (show 20 ≤ lo - 22 by omega) hp (by omega)) ?_
      rw [show (ss (fh e p (sn e p / 4)) p (8 * sn e p + 8)) = a1 e p by unfold a1; rw [if_pos hs2.1, hs2.1, Nat.add_mul, Nat.mul_comm (sn e p) 8]]
      refine eR.step 3 (F' := (45, [(0, .ref 23), (1, .int (nI (p))), (2, .int (nI (v))), (3, .int (nI (sn e p)))], [.int (nI (sn e p)), .int (nI (p)), .ref 23])) (h' := (Wd C (a1 e p) P Q m N R t Z)) (fun _ _ => rfl) ?_
      rw [← hs2.1]
      refine eR.call (k' := 117) (as := [.ref 23, .int (nI (p)), .int (nI (nsl e p))]) (rest := []) (v := some (.int (nI (sa (a1 e p) p (nsl e p))))) (h1 := (Wd C (a1 e p) P Q m N R t Z)) rfl rfl rfl rfl (eg (Nat.le_of_ble_eq_true rfl) (show 22 ≤ lo by omega) (Nat.le_of_ble_eq_true rfl)) (m_slotAt (show 66 ≤ lo - 22 by omega) hD2 ns.2.1) ?_
      refine eR.step 5 (F' := (57, [(0, .ref 23), (1, .int (nI (p))), (2, .int (nI (v))), (3, .int (nI (nsl e p))), (4, .int (nI (sa (a1 e p) p (nsl e p))))], [.int (nI (v)), .int (nI (sa (a1 e p) p (nsl e p))), .ref 24])) (h' := (Wd C (a1 e p) P Q m N R t Z)) (fun _ _ => rfl) ?_
      refine eR.st24 rfl (by omega) (by omega) ?_
      refine eR.step 2 (F' := (61, [(0, .ref 23), (1, .int (nI (p))), (2, .int (nI (v))), (3, .int (nI (nsl e p))), (4, .int (nI (sa (a1 e p) p (nsl e p)))), (5, .int (nI 0))], [])) (h' := (Wd C (dp (a1 e p) (sa (a1 e p) p (nsl e p)) (v)) P Q m N R t Z)) (fun _ _ => rfl) ?_
      exact l_addS hN hm hm2 hs 7 0 _ (by omega)
    · have hz : bo e p (sn e p / 4) ≠ 0 := by
        rw [bo_lo e p _ (by omega)]
        exact (r.2.2.2 (sn e p / 4) (by omega)).mpr (by omega)
      refine eR.ifc rfl true ((nc_ne (b := 0) (by omega) (by decide)).trans (decide_eq_true (by omega))) ?_
      refine eR.step 4 (F' := (35, [(0, .ref 23), (1, .int (nI (p))), (2, .int (nI (v))), (3, .int (nI (sn e p)))], [.int (nI (sn e p)), .int (nI 8), .int (nI (p)), .ref 23])) (h' := (Wd C e P Q m N R t Z)) (fun _ _ => rfl) ?_
      refine eR.nmul rfl ?_
      refine eR.step 1 (F' := (38, [(0, .ref 23), (1, .int (nI (p))), (2, .int (nI (v))), (3, .int (nI (sn e p)))], [.int (nI 8), .int (nI (8 * (sn e p))), .int (nI (p)), .ref 23])) (h' := (Wd C e P Q m N R t Z)) (fun _ _ => rfl) ?_
      refine eR.nadd rfl ?_
      rw [show Wd C e P Q m N R t Z = Wd C (fh e p (sn e p / 4)) P Q m N R t Z by rw [fh_full e p _ hz]]
      refine eR.call (k' := 116) (as := [.ref 23, .int (nI (p)), .int (nI ((8 * (sn e p)) + 8))]) (rest := []) (v := none) (h1 := (Wd C (ss (fh e p (sn e p / 4)) p (8 * sn e p + 8)) P Q m N R t Z)) rfl rfl rfl rfl (eg (Nat.le_of_ble_eq_true rfl) (show 22 ≤ lo by omega) (Nat.le_of_ble_eq_true rfl)) (m_setSize (show 20 ≤ lo - 22 by omega) hp (by omega)) ?_
      rw [show (ss (fh e p (sn e p / 4)) p (8 * sn e p + 8)) = a1 e p by unfold a1; rw [if_pos hs2.1, hs2.1, Nat.add_mul, Nat.mul_comm (sn e p) 8]]
      refine eR.step 3 (F' := (45, [(0, .ref 23), (1, .int (nI (p))), (2, .int (nI (v))), (3, .int (nI (sn e p)))], [.int (nI (sn e p)), .int (nI (p)), .ref 23])) (h' := (Wd C (a1 e p) P Q m N R t Z)) (fun _ _ => rfl) ?_
      rw [← hs2.1]
      refine eR.call (k' := 117) (as := [.ref 23, .int (nI (p)), .int (nI (nsl e p))]) (rest := []) (v := some (.int (nI (sa (a1 e p) p (nsl e p))))) (h1 := (Wd C (a1 e p) P Q m N R t Z)) rfl rfl rfl rfl (eg (Nat.le_of_ble_eq_true rfl) (show 22 ≤ lo by omega) (Nat.le_of_ble_eq_true rfl)) (m_slotAt (show 66 ≤ lo - 22 by omega) hD2 ns.2.1) ?_
      refine eR.step 5 (F' := (57, [(0, .ref 23), (1, .int (nI (p))), (2, .int (nI (v))), (3, .int (nI (nsl e p))), (4, .int (nI (sa (a1 e p) p (nsl e p))))], [.int (nI (v)), .int (nI (sa (a1 e p) p (nsl e p))), .ref 24])) (h' := (Wd C (a1 e p) P Q m N R t Z)) (fun _ _ => rfl) ?_
      refine eR.st24 rfl (by omega) (by omega) ?_
      refine eR.step 2 (F' := (61, [(0, .ref 23), (1, .int (nI (p))), (2, .int (nI (v))), (3, .int (nI (nsl e p))), (4, .int (nI (sa (a1 e p) p (nsl e p)))), (5, .int (nI 0))], [])) (h' := (Wd C (dp (a1 e p) (sa (a1 e p) p (nsl e p)) (v)) P Q m N R t Z)) (fun _ _ => rfl) ?_
      exact l_addS hN hm hm2 hs 7 0 _ (by omega)
  · have hs2 := nsl_fs h
    refine eR.ifc rfl true (mc_gin h (by omega)) ?_
    rw [fi_n h, ← hs2]
    have e1 : a1 e p = e := if_neg (by have := fs_spec e p 0 (sn e p - 2) 2; rw [hs2]; omega)
    rw [show Wd C e P Q m N R t Z = Wd C (a1 e p) P Q m N R t Z by rw [e1]]
    refine eR.step 3 (F' := (45, [(0, .ref 23), (1, .int (nI (p))), (2, .int (nI (v))), (3, .int (nI (nsl e p)))], [.int (nI (nsl e p)), .int (nI (p)), .ref 23])) (h' := (Wd C (a1 e p) P Q m N R t Z)) (fun _ _ => rfl) ?_
    refine eR.call (k' := 117) (as := [.ref 23, .int (nI (p)), .int (nI (nsl e p))]) (rest := []) (v := some (.int (nI (sa (a1 e p) p (nsl e p))))) (h1 := (Wd C (a1 e p) P Q m N R t Z)) rfl rfl rfl rfl (eg (Nat.le_of_ble_eq_true rfl) (show 22 ≤ lo by omega) (Nat.le_of_ble_eq_true rfl)) (m_slotAt (show 66 ≤ lo - 22 by omega) hD2 ns.2.1) ?_
    refine eR.step 5 (F' := (57, [(0, .ref 23), (1, .int (nI (p))), (2, .int (nI (v))), (3, .int (nI (nsl e p))), (4, .int (nI (sa (a1 e p) p (nsl e p))))], [.int (nI (v)), .int (nI (sa (a1 e p) p (nsl e p))), .ref 24])) (h' := (Wd C (a1 e p) P Q m N R t Z)) (fun _ _ => rfl) ?_
    refine eR.st24 rfl (by omega) (by omega) ?_
    refine eR.step 2 (F' := (61, [(0, .ref 23), (1, .int (nI (p))), (2, .int (nI (v))), (3, .int (nI (nsl e p))), (4, .int (nI (sa (a1 e p) p (nsl e p)))), (5, .int (nI 0))], [])) (h' := (Wd C (dp (a1 e p) (sa (a1 e p) p (nsl e p)) (v)) P Q m N R t Z)) (fun _ _ => rfl) ?_
    exact l_addS hN hm hm2 hs 7 0 _ (by omega)

