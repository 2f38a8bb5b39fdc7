def ml : (Nat → Nat) → Nat → Nat → (Nat → Nat)
  | d, _, 0 => d
  | d, i, n + 1 => ml (rm d 3 i true) (i + 1) n
theorem ml_dk (n : Nat) : ∀ (d : Nat → Nat) (i : Nat), dk d → dk (ml d i n) := by
  induction n with
  | zero => intro d i h; exact h
  | succ n ih => intro d i h; rw [ml]; exact ih _ _ (dk_rm _ h _ _ _)
theorem cz_all {e : Nat → Nat} (he : dk e) : cz e 0 2048 = fun _ => 0 := by
  funext k
  unfold cz
  split
  · rfl
  · next h => exact he.2 k (by omega)
def fA : Nat → Nat := ml (rm (dp (dp (fun _ => 0) 0 77) 11 1) 1 0 true) 0 9
def fB : Nat → Nat := dp (ti fA 2) (32 + (16 * (lw fA 1 1 15)) + 1) 2
def fy : Nat → Nat := fun k => if k = 0 then 77 else if k = 1 then 3 else if k = 3 then 255 else if k = 4 then 1 else if k = 11 then 1 else if k = 48 then 2 else if k = 49 then 2 else 0
theorem fA_dk : dk fA := ml_dk 9 _ 0 (dk_rm _ (dk_dp _ (dk_dp _ dk_z _ _) _ _) _ _ _)
theorem fB_dk : dk fB := dk_dp _ (dk_ti _ fA_dk _) _ _
theorem fB_lo : ∀ k, k < 2048 → fB k = fy k := by decide +kernel
theorem fB_fy : fB = fy := by
  funext k
  by_cases a : k < 2048
  · exact fB_lo k a
  · rw [fB_dk.2 k (by omega)]
    unfold fy
    repeat rw [if_neg (by omega)]
theorem fA_lw : lw fA 1 1 15 = 1 := by decide +kernel
theorem fA_m1 : bt fA 1 0 = true := by decide +kernel
theorem fy_qb : ∀ i, i < 16 → ∀ w, w < 39 → qb fy i w = 0 := by decide +kernel
theorem fB_B : qB fB := by
  have hd := fB_dk
  rw [fB_fy] at hd ⊢
  have h : ∀ i w, i < 16 → w ≤ 38 → qb fy i w = 0 := fun i w hi hw => fy_qb i hi w (by omega)
  refine ⟨hd, fun i w hi hw => Or.inl (h i w hi hw), fun i w j v hi hw _ _ h0 => absurd (h i w hi hw) h0, by decide, by decide⟩
theorem fB_M : qM fB := by
  rw [fB_fy]
  have h : ∀ i w, i < 16 → w ≤ 38 → qb fy i w = 0 := fun i w hi hw => fy_qb i hi w (by omega)
  refine ⟨?_, fun i w hi hw h0 => absurd (h i w hi hw) h0⟩
  have : ∀ i, i < 16 → fy (32 + (16 * i)) ≠ 0 → bt fy 1 i = true := by decide +kernel
  exact this
theorem fB_bo : bo fB 1 0 = 0 := by decide +kernel
theorem fB_cf : cf fB 3 9 55 = 55 := by decide +kernel
theorem fB_z : ∀ k, k < 16 → 2 ≤ k → fB (32 + (16 * 1) + k) = 0 := by decide +kernel
theorem rF_lo : ∀ k, k < 2048 → rF fB 1 1 k = fz k := by decide +kernel
theorem rF_fz : rF fB 1 1 = fz := by
  funext k
  by_cases a : k < 2048
  · exact rF_lo k a
  · have hd : dk (rF fB 1 1) := dk_dp _ (dk_dp _ (dk_dp _ (dk_dp _ (dk_dp _ (dk_dp _ (dk_dp _ (dk_fh _ fB_dk _ _) _ _) _ _) _ _) _ _) _ _) _ _) _ _
    rw [hd.2 k (by omega)]
    unfold fz
    repeat rw [if_neg (by omega)]
theorem l_fz {cm sm fr lo : Nat} {C : gC} {e : Nat → Nat} {P Q : gT} {m : Nat} {N : Nat → Nat} {R : gS} {t : Nat} {Z : mj_H} (he : dk e) {r : mj_O × mj_H} : ∀ (q k : Nat), k + q = 2048 → eR mm_P cm sm fr lo 106 (27, [(0, .ref 23), (1, .int (nI 2048))], []) (Wd C (cz e 0 2048) P Q m N R t Z) r → eR mm_P cm sm fr lo 106 (7, [(0, .ref 23), (1, .int (nI (k)))], []) (Wd C (cz e 0 k) P Q m N R t Z) r
  | 0, k, h1, w => by
    have e0 : k = 2048 := by omega
    subst e0
    refine eR.step 2 (F' := (11, [(0, .ref 23), (1, .int (nI 2048))], [.int (nI 2048), .int (nI 2048)])) (h' := (Wd C (cz e 0 2048) P Q m N R t Z)) (fun _ _ => rfl) ?_
    refine eR.icmp rfl true ((nc_ge (by omega) (by omega)).trans (decide_eq_true (by omega))) ?_
    exact w
  | q + 1, k, h1, w => by
    refine eR.step 2 (F' := (11, [(0, .ref 23), (1, .int (nI (k)))], [.int (nI 2048), .int (nI (k))])) (h' := (Wd C (cz e 0 k) P Q m N R t Z)) (fun _ _ => rfl) ?_
    refine eR.icmp rfl false ((nc_ge (by omega) (by omega)).trans (decide_eq_false (by omega))) ?_
    refine eR.step 4 (F' := (20, [(0, .ref 23), (1, .int (nI (k)))], [.int (nI 0), .int (nI (k)), .ref 24])) (h' := (Wd C (cz e 0 k) P Q m N R t Z)) (fun _ _ => rfl) ?_
    refine eR.st24 rfl (by omega) (by decide) ?_
    rw [show dp (cz e 0 k) k 0 = cz e 0 (k + 1) by have h9 := cz_s he 0 k; rw [Nat.zero_add] at h9; exact h9]
    refine eR.step 1 (F' := (24, [(0, .ref 23), (1, .int (nI (k) + 1))], [])) (h' := (Wd C (cz e 0 (k + 1)) P Q m N R t Z)) (fun _ _ => rfl) ?_
    rw [show nI (k) + 1 = nI (k + 1) from nI_add (k) 1]
    refine eR.step 1 (F' := (7, [(0, .ref 23), (1, .int (nI (k + 1)))], [])) (h' := (Wd C (cz e 0 (k + 1)) P Q m N R t Z)) (fun _ _ => rfl) ?_
    exact l_fz he q (k + 1) (by omega) w
theorem l_fm {cm sm fr lo : Nat} {C : gC} {P Q : gT} {m : Nat} {N : Nat → Nat} {R : gS} {t : Nat} {Z : mj_H} (hlo : 114 ≤ lo) {r : mj_O × mj_H} : ∀ (q k : Nat) (e : Nat → Nat), dk e → k + q = 9 → eR mm_P cm sm (fr + 6) lo 106 (71, [(0, .ref 23), (1, .int (nI 9))], []) (Wd C (ml e k q) P Q m N R t Z) r → eR mm_P cm sm (fr + 6) lo 106 (52, [(0, .ref 23), (1, .int (nI (k)))], []) (Wd C e P Q m N R t Z) r
  | 0, k, e, he, h1, w => by
    have e0 : k = 9 := by omega
    subst e0
    refine eR.step 2 (F' := (55, [(0, .ref 23), (1, .int (nI 9))], [.int (nI 9), .int (nI 9)])) (h' := (Wd C e P Q m N R t Z)) (fun _ _ => rfl) ?_
    refine eR.icmp rfl true ((nc_ge (by omega) (by omega)).trans (decide_eq_true (by omega))) ?_
    exact w
  | q + 1, k, e, he, h1, w => by
    refine eR.step 2 (F' := (55, [(0, .ref 23), (1, .int (nI (k)))], [.int (nI 9), .int (nI (k))])) (h' := (Wd C e P Q m N R t Z)) (fun _ _ => rfl) ?_
    refine eR.icmp rfl false ((nc_ge (by omega) (by omega)).trans (decide_eq_false (by omega))) ?_
    refine eR.step 4 (F' := (62, [(0, .ref 23), (1, .int (nI (k)))], [.int (nI 1), .int (nI (k)), .int (nI 3), .ref 23])) (h' := (Wd C e P Q m N R t Z)) (fun _ _ => rfl) ?_
    refine eR.call (k' := 107) (as := [.ref 23, .int (nI 3), .int (nI (k)), .int (nI 1)]) (rest := []) (v := none) (h1 := (Wd C (rm e 3 k true) P Q m N R t Z)) rfl rfl rfl rfl (eg (Nat.le_of_ble_eq_true rfl) (show 24 ≤ lo by omega) (Nat.le_of_ble_eq_true rfl)) (m_mark1 he (by omega) (by omega)) ?_
    refine eR.step 1 (F' := (68, [(0, .ref 23), (1, .int (nI (k) + 1))], [])) (h' := (Wd C (rm e 3 k true) P Q m N R t Z)) (fun _ _ => rfl) ?_
    rw [show nI (k) + 1 = nI (k + 1) from nI_add (k) 1]
    refine eR.step 1 (F' := (52, [(0, .ref 23), (1, .int (nI (k + 1)))], [])) (h' := (Wd C (rm e 3 k true) P Q m N R t Z)) (fun _ _ => rfl) ?_
    exact l_fm hlo q (k + 1) _ (dk_rm _ he _ _ _) (by omega) w
theorem m_format {cm sm fr lo : Nat} {C : gC} {e : Nat → Nat} {P Q : gT} {m : Nat} {N : Nat → Nat} {R : gS} {t : Nat} {Z : mj_H} (hlo : 114 ≤ lo) (he : dk e) : eE mm_P cm sm (fr + 7) lo 106 [.ref 23] (Wd C e P Q m N R t Z) (.inl (none), (Wd C fz P Q m N R 0 Z)) := by
  refine eE.of ?_
  refine eR.step 2 (F' := (2, [(0, .ref 23)], [.int (nI 0), .ref 23])) (h' := (Wd C e P Q m N R t Z)) (fun _ _ => rfl) ?_
  refine eR.sim rfl (F := (5, [(0, .ref 23)], [])) (h' := (Wd C e P Q m N R 0 Z)) (by rfl) ?_
  refine eR.step 2 (F' := (7, [(0, .ref 23), (1, .int (nI 0))], [])) (h' := (Wd C e P Q m N R 0 Z)) (fun _ _ => rfl) ?_
  rw [show Wd C e P Q m N R 0 Z = Wd C (cz e 0 0) P Q m N R 0 Z by rw [cz_0]]
  refine l_fz he 2048 0 (by omega) ?_
  rw [cz_all he]
  refine eR.step 4 (F' := (34, [(0, .ref 23), (1, .int (nI 2048))], [.int (nI 77), .int (nI 0), .ref 24])) (h' := (Wd C (fun _ => 0) P Q m N R 0 Z)) (fun _ _ => rfl) ?_
  refine eR.st24 rfl (by omega) (by decide) ?_
  refine eR.step 4 (F' := (42, [(0, .ref 23), (1, .int (nI 2048))], [.int (nI 1), .int (nI 11), .ref 24])) (h' := (Wd C (dp (fun _ => 0) (0) (77)) P Q m N R 0 Z)) (fun _ _ => rfl) ?_
  refine eR.st24 rfl (by omega) (by decide) ?_
  refine eR.step 4 (F' := (47, [(0, .ref 23), (1, .int (nI 2048))], [.int (nI 1), .int (nI 0), .int (nI 1), .ref 23])) (h' := (Wd C (dp (dp (fun _ => 0) (0) (77)) (11) (1)) P Q m N R 0 Z)) (fun _ _ => rfl) ?_
  have k0 : dk (dp (dp (fun _ => 0) 0 77) 11 1) := dk_dp _ (dk_dp _ dk_z _ _) _ _
  refine eR.call (k' := 107) (as := [.ref 23, .int (nI 1), .int (nI 0), .int (nI 1)]) (rest := []) (v := none) (h1 := (Wd C (rm (dp (dp (fun _ => 0) 0 77) 11 1) 1 0 true) P Q m N R 0 Z)) rfl rfl rfl rfl (eg (Nat.le_of_ble_eq_true rfl) (show 24 ≤ lo by omega) (Nat.le_of_ble_eq_true rfl)) (m_mark1 k0 (by decide) (by decide)) ?_
  refine eR.step 2 (F' := (52, [(0, .ref 23), (1, .int (nI 0))], [])) (h' := (Wd C (rm (dp (dp (fun _ => 0) 0 77) 11 1) 1 0 true) P Q m N R 0 Z)) (fun _ _ => rfl) ?_
  refine l_fm hlo 9 0 _ (dk_rm _ k0 _ _ _) (by omega) ?_
  show eR _ _ _ _ _ _ _ (Wd C fA P Q m N R 0 Z) _
  refine eR.step 3 (F' := (74, [(0, .ref 23), (1, .int (nI 9))], [.int (nI 2), .int (nI 2), .ref 23])) (h' := (Wd C fA P Q m N R 0 Z)) (fun _ _ => rfl) ?_
  refine eR.call (k' := 108) (as := [.ref 23, .int (nI 2), .int (nI 2)]) (rest := []) (v := some (.int (nI (lw fA 1 1 15)))) (h1 := (Wd C (dp (ti fA 2) (32 + (16 * (lw fA 1 1 15)) + 1) 2) P Q m N R 0 Z)) rfl rfl rfl rfl (eg (Nat.le_of_ble_eq_true rfl) (show 23 ≤ lo by omega) (Nat.le_of_ble_eq_true rfl)) (m_newI (show 46 ≤ lo - 23 by omega) fA_dk fA_m1 (by rw [fA_lw]; decide) (by decide) (by decide)) ?_
  show eR _ _ _ _ _ _ _ (Wd C fB P Q m N R 0 Z) _
  rw [fA_lw]
  refine eR.step 4 (F' := (81, [(0, .ref 23), (1, .int (nI 1))], [.int (nI 1), .int (nI 1), .ref 23])) (h' := (Wd C fB P Q m N R 0 Z)) (fun _ _ => rfl) ?_
  have h0 : lw fB 3 9 55 ≠ 0 := lw_cf fB (by rw [fB_cf]; decide)
  refine eR.call (k' := 112) (as := [.ref 23, .int (nI 1), .int (nI 1)]) (rest := []) (v := none) (h1 := (Wd C (rF fB 1 1) P Q m N R 0 Z)) rfl rfl rfl rfl (eg (Nat.le_of_ble_eq_true rfl) (show 23 ≤ lo by omega) (Nat.le_of_ble_eq_true rfl)) (m_first (show 91 ≤ lo - 23 by omega) fB_B fB_M (by decide) (by decide) fB_bo (by rw [fB_cf]; decide) (gD_new (by decide) (fun k h2 h16 => fB_z k h16 h2) h0)) ?_
  rw [rF_fz]
  exact eR.ret rfl rfl rfl
theorem m_renameU {cm sm fr lo : Nat} {C : gC} {e : Nat → Nat} {P Q : gT} {m : Nat} {N : Nat → Nat} {R : gS} {t : Nat} {Z : mj_H} (hlo : 159 ≤ lo) (V : qV e) (hN : ∀ k, N k < 256) (ht : ∀ k, P.1 k < 65536) (hl : P.2 ≤ 40) (ht2 : ∀ k, Q.1 k < 65536) (hl2 : Q.2 ≤ 40) {p m1 m0 : Nat} {N1 N0 : Nat → Nat} (hq0 : (pP Q.1 Q.2 N).2.1 = m0) (hqN : (pP Q.1 Q.2 N).2.2 = N0) (hp0 : ab e P N0 = p) (hm0 : (pP P.1 P.2 N0).2.1 = m1) (hN0 : (pP P.1 P.2 N0).2.2 = N1) (hN3 : ∀ k, N0 k < 256) (h11 : ¬ e 11 = 1) : eE mm_P cm sm (fr + 8) lo 150 [.ref 23] (Wd C e P Q m N R t Z) (.inl (some (.int (nI 0))), (Wd C e (P.1, 0) (Q.1, 0) m1 N1 R 1 Z)) := by
  refine eE.of ?_
  have htf := tf_le e p
  have h11b := V.B.dk.1 11
  refine eR.step 2 (F' := (2, [(0, .ref 23)], [.int (nI 1), .ref 23])) (h' := (Wd C e P Q m N R t Z)) (fun _ _ => rfl) ?_
  refine eR.call (k' := 124) (as := [.ref 23, .int (nI 1)]) (rest := []) (v := some (.int (nI (bi (pP Q.1 Q.2 N).1)))) (h1 := (Wd C e P Q (pP Q.1 Q.2 N).2.1 (pP Q.1 Q.2 N).2.2 R t Z)) rfl rfl rfl rfl (eg (Nat.le_of_ble_eq_true rfl) (show 25 ≤ lo by omega) (Nat.le_of_ble_eq_true rfl)) (m_parse1 (show 22 ≤ lo - 25 by omega) ht2 hl2) ?_
  rw [hq0, hqN]
  by_cases h1 : (pP Q.1 Q.2 N).1 = true
  · refine eR.ifc rfl false (mb_et h1) ?_
    refine eR.step 1 (F' := (9, [(0, .ref 23)], [.ref 23])) (h' := (Wd C e P Q m0 N0 R t Z)) (fun _ _ => rfl) ?_
    refine eR.call (k' := 126) (as := [.ref 23]) (rest := []) (v := some (.int (nI (bi (decide (e 11 = 1)))))) (h1 := (Wd C e P Q m0 N0 R t Z)) rfl rfl rfl rfl (eg (Nat.le_of_ble_eq_true rfl) (show 20 ≤ lo by omega) (Nat.le_of_ble_eq_true rfl)) (m_clean V.B.dk) ?_
    refine eR.ifc rfl true (mb_ef (fun z => h11 (of_decide_eq_true z))) ?_
    refine eR.step 3 (F' := (22, [(0, .ref 23), (1, .int (nI 0))], [.int (nI 0)])) (h' := (Wd C e P Q m0 N0 R t Z)) (fun _ _ => rfl) ?_
    refine eR.ifc rfl true rfl ?_
    refine eR.step 3 (F' := (39, [(0, .ref 23), (1, .int (nI 0)), (2, .int (nI 0))], [.int (nI 0)])) (h' := (Wd C e P Q m0 N0 R t Z)) (fun _ _ => rfl) ?_
    refine eR.ifc rfl true rfl ?_
    refine eR.step 3 (F' := (65, [(0, .ref 23), (1, .int (nI 0)), (2, .int (nI 0)), (3, .int (nI 0))], [.int (nI 0)])) (h' := (Wd C e P Q m0 N0 R t Z)) (fun _ _ => rfl) ?_
    refine eR.ifc rfl true rfl ?_
    refine eR.step 4 (F' := (87, [(0, .ref 23), (1, .int (nI 0)), (2, .int (nI 0)), (3, .int (nI 0)), (4, .int ((-1 : Int32)))], [.int (nI 0), .ref 23])) (h' := (Wd C e P Q m0 N0 R t Z)) (fun _ _ => rfl) ?_
    refine eR.sim rfl (F := (90, [(0, .ref 23), (1, .int (nI 0)), (2, .int (nI 0)), (3, .int (nI 0)), (4, .int ((-1 : Int32)))], [])) (h' := (Wd C e P (Q.1, 0) m0 N0 R t Z)) (by rfl) ?_
    refine eR.step 1 (F' := (91, [(0, .ref 23), (1, .int (nI 0)), (2, .int (nI 0)), (3, .int (nI 0)), (4, .int ((-1 : Int32)))], [.ref 23])) (h' := (Wd C e P (Q.1, 0) m0 N0 R t Z)) (fun _ _ => rfl) ?_
    refine eR.call (k' := 123) (as := [.ref 23]) (rest := []) (v := some (.int (nI (ab e P N0)))) (h1 := (Wd C e (P.1, 0) (Q.1, 0) (pP P.1 P.2 N0).2.1 (pP P.1 P.2 N0).2.2 R (tf e (ab e P N0)) Z)) rfl rfl rfl rfl (eg (Nat.le_of_ble_eq_true rfl) (show 23 ≤ lo by omega) (Nat.le_of_ble_eq_true rfl)) (m_above (show 136 ≤ lo - 23 by omega) V hN3 ht hl) ?_
    rw [hp0, hm0, hN0]
    refine eR.step 3 (F' := (98, [(0, .ref 23), (1, .int (nI 0)), (2, .int (nI 0)), (3, .int (nI 0)), (4, .int ((-1 : Int32))), (5, .int (nI (p)))], [.int (nI 0), .ref 23])) (h' := (Wd C e (P.1, 0) (Q.1, 0) m1 N1 R (tf e p) Z)) (fun _ _ => rfl) ?_
    rw [tf_1 h11]
    refine eR.ifc rfl false rfl ?_
    refine eR.step 3 (F' := (107, [(0, .ref 23), (1, .int (nI 0)), (2, .int (nI 0)), (3, .int (nI 0)), (4, .int ((-1 : Int32))), (5, .int (nI (p)))], [.int (nI 2), .int (nI 1), .ref 23])) (h' := (Wd C e (P.1, 0) (Q.1, 0) m1 N1 R 1 Z)) (fun _ _ => rfl) ?_
    refine eR.call (k' := 136) (as := [.ref 23, .int (nI 1), .int (nI 2)]) (rest := []) (v := none) (h1 := (Wd C e (P.1, 0) (Q.1, 0) m1 N1 R (ri true 1 2) Z)) rfl rfl rfl rfl (eg (Nat.le_of_ble_eq_true rfl) (show 22 ≤ lo by omega) (Nat.le_of_ble_eq_true rfl)) (m_refIf (b := true) (show 21 ≤ lo - 22 by omega) (by decide)) ?_
    rw [show ri true 1 2 = 1 from rfl]
    refine eR.step 2 (F' := (114, [(0, .ref 23), (1, .int (nI 0)), (2, .int (nI 0)), (3, .int (nI 0)), (4, .int ((-1 : Int32))), (5, .int (nI (p)))], [.int (nI 1)])) (h' := (Wd C e (P.1, 0) (Q.1, 0) m1 N1 R 1 Z)) (fun _ _ => rfl) ?_
    refine eR.ifc rfl true ((nc_ne (b := 0) (by omega) (by decide)).trans (decide_eq_true (by omega))) ?_
    refine eR.step 2 (F' := (206, [(0, .ref 23), (1, .int (nI 0)), (2, .int (nI 0)), (3, .int (nI 0)), (4, .int ((-1 : Int32))), (5, .int (nI (p)))], [.int (nI 1)])) (h' := (Wd C e (P.1, 0) (Q.1, 0) m1 N1 R 1 Z)) (fun _ _ => rfl) ?_
    refine eR.ifc rfl false ((nc_eq (b := 0) (by omega) (by decide)).trans (decide_eq_false (by omega))) ?_
    refine eR.step 1 (F' := (210, [(0, .ref 23), (1, .int (nI 0)), (2, .int (nI 0)), (3, .int (nI 0)), (4, .int ((-1 : Int32))), (5, .int (nI (p)))], [.int (nI 0)])) (h' := (Wd C e (P.1, 0) (Q.1, 0) m1 N1 R 1 Z)) (fun _ _ => rfl) ?_
    exact eR.ret rfl rfl rfl
  · refine eR.ifc rfl true (mb_ef h1) ?_
    refine eR.step 3 (F' := (22, [(0, .ref 23), (1, .int (nI 0))], [.int (nI 0)])) (h' := (Wd C e P Q m0 N0 R t Z)) (fun _ _ => rfl) ?_
    refine eR.ifc rfl true rfl ?_
    refine eR.step 3 (F' := (39, [(0, .ref 23), (1, .int (nI 0)), (2, .int (nI 0))], [.int (nI 0)])) (h' := (Wd C e P Q m0 N0 R t Z)) (fun _ _ => rfl) ?_
    refine eR.ifc rfl true rfl ?_
    refine eR.step 3 (F' := (65, [(0, .ref 23), (1, .int (nI 0)), (2, .int (nI 0)), (3, .int (nI 0))], [.int (nI 0)])) (h' := (Wd C e P Q m0 N0 R t Z)) (fun _ _ => rfl) ?_
    refine eR.ifc rfl true rfl ?_
    refine eR.step 4 (F' := (87, [(0, .ref 23), (1, .int (nI 0)), (2, .int (nI 0)), (3, .int (nI 0)), (4, .int ((-1 : Int32)))], [.int (nI 0), .ref 23])) (h' := (Wd C e P Q m0 N0 R t Z)) (fun _ _ => rfl) ?_
    refine eR.sim rfl (F := (90, [(0, .ref 23), (1, .int (nI 0)), (2, .int (nI 0)), (3, .int (nI 0)), (4, .int ((-1 : Int32)))], [])) (h' := (Wd C e P (Q.1, 0) m0 N0 R t Z)) (by rfl) ?_
    refine eR.step 1 (F' := (91, [(0, .ref 23), (1, .int (nI 0)), (2, .int (nI 0)), (3, .int (nI 0)), (4, .int ((-1 : Int32)))], [.ref 23])) (h' := (Wd C e P (Q.1, 0) m0 N0 R t Z)) (fun _ _ => rfl) ?_
    refine eR.call (k' := 123) (as := [.ref 23]) (rest := []) (v := some (.int (nI (ab e P N0)))) (h1 := (Wd C e (P.1, 0) (Q.1, 0) (pP P.1 P.2 N0).2.1 (pP P.1 P.2 N0).2.2 R (tf e (ab e P N0)) Z)) rfl rfl rfl rfl (eg (Nat.le_of_ble_eq_true rfl) (show 23 ≤ lo by omega) (Nat.le_of_ble_eq_true rfl)) (m_above (show 136 ≤ lo - 23 by omega) V hN3 ht hl) ?_
    rw [hp0, hm0, hN0]
    refine eR.step 3 (F' := (98, [(0, .ref 23), (1, .int (nI 0)), (2, .int (nI 0)), (3, .int (nI 0)), (4, .int ((-1 : Int32))), (5, .int (nI (p)))], [.int (nI 0), .ref 23])) (h' := (Wd C e (P.1, 0) (Q.1, 0) m1 N1 R (tf e p) Z)) (fun _ _ => rfl) ?_
    rw [tf_1 h11]
    refine eR.ifc rfl false rfl ?_
    refine eR.step 3 (F' := (107, [(0, .ref 23), (1, .int (nI 0)), (2, .int (nI 0)), (3, .int (nI 0)), (4, .int ((-1 : Int32))), (5, .int (nI (p)))], [.int (nI 2), .int (nI 1), .ref 23])) (h' := (Wd C e (P.1, 0) (Q.1, 0) m1 N1 R 1 Z)) (fun _ _ => rfl) ?_
    refine eR.call (k' := 136) (as := [.ref 23, .int (nI 1), .int (nI 2)]) (rest := []) (v := none) (h1 := (Wd C e (P.1, 0) (Q.1, 0) m1 N1 R (ri true 1 2) Z)) rfl rfl rfl rfl (eg (Nat.le_of_ble_eq_true rfl) (show 22 ≤ lo by omega) (Nat.le_of_ble_eq_true rfl)) (m_refIf (b := true) (show 21 ≤ lo - 22 by omega) (by decide)) ?_
    rw [show ri true 1 2 = 1 from rfl]
    refine eR.step 2 (F' := (114, [(0, .ref 23), (1, .int (nI 0)), (2, .int (nI 0)), (3, .int (nI 0)), (4, .int ((-1 : Int32))), (5, .int (nI (p)))], [.int (nI 1)])) (h' := (Wd C e (P.1, 0) (Q.1, 0) m1 N1 R 1 Z)) (fun _ _ => rfl) ?_
    refine eR.ifc rfl true ((nc_ne (b := 0) (by omega) (by decide)).trans (decide_eq_true (by omega))) ?_
    refine eR.step 2 (F' := (206, [(0, .ref 23), (1, .int (nI 0)), (2, .int (nI 0)), (3, .int (nI 0)), (4, .int ((-1 : Int32))), (5, .int (nI (p)))], [.int (nI 1)])) (h' := (Wd C e (P.1, 0) (Q.1, 0) m1 N1 R 1 Z)) (fun _ _ => rfl) ?_
    refine eR.ifc rfl false ((nc_eq (b := 0) (by omega) (by decide)).trans (decide_eq_false (by omega))) ?_
    refine eR.step 1 (F' := (210, [(0, .ref 23), (1, .int (nI 0)), (2, .int (nI 0)), (3, .int (nI 0)), (4, .int ((-1 : Int32))), (5, .int (nI (p)))], [.int (nI 0)])) (h' := (Wd C e (P.1, 0) (Q.1, 0) m1 N1 R 1 Z)) (fun _ _ => rfl) ?_
    exact eR.ret rfl rfl rfl
theorem m_renameZ {cm sm fr lo : Nat} {C : gC} {e : Nat → Nat} {P Q : gT} {m : Nat} {N : Nat → Nat} {R : gS} {t : Nat} {Z : mj_H} (hlo : 159 ≤ lo) (V : qV e) (hN : ∀ k, N k < 256) (ht : ∀ k, P.1 k < 65536) (hl : P.2 ≤ 40) (ht2 : ∀ k, Q.1 k < 65536) (hl2 : Q.2 ≤ 40) {p m1 m0 : Nat} {N1 N0 : Nat → Nat} (hq0 : (pP Q.1 Q.2 N).2.1 = m0) (hqN : (pP Q.1 Q.2 N).2.2 = N0) (hp0 : ab e P N0 = p) (hm0 : (pP P.1 P.2 N0).2.1 = m1) (hN0 : (pP P.1 P.2 N0).2.2 = N1) (hN3 : ∀ k, N0 k < 256) (h11 : e 11 = 1) (hz : (pP Q.1 Q.2 N).1 = true → ld e N0 m0 = 0) : eE mm_P cm sm (fr + 8) lo 150 [.ref 23] (Wd C e P Q m N R t Z) (.inl (some (.int (nI 0))), (Wd C e (P.1, 0) (Q.1, 0) m1 N1 R 2 Z)) := by
  refine eE.of ?_
  have htf := tf_le e p
  have h11b := V.B.dk.1 11
  refine eR.step 2 (F' := (2, [(0, .ref 23)], [.int (nI 1), .ref 23])) (h' := (Wd C e P Q m N R t Z)) (fun _ _ => rfl) ?_
  refine eR.call (k' := 124) (as := [.ref 23, .int (nI 1)]) (rest := []) (v := some (.int (nI (bi (pP Q.1 Q.2 N).1)))) (h1 := (Wd C e P Q (pP Q.1 Q.2 N).2.1 (pP Q.1 Q.2 N).2.2 R t Z)) rfl rfl rfl rfl (eg (Nat.le_of_ble_eq_true rfl) (show 25 ≤ lo by omega) (Nat.le_of_ble_eq_true rfl)) (m_parse1 (show 22 ≤ lo - 25 by omega) ht2 hl2) ?_
  rw [hq0, hqN]
  by_cases h1 : (pP Q.1 Q.2 N).1 = true
  · have hml := pP_len hl2 h1
    rw [hq0] at hml
    refine eR.ifc rfl false (mb_et h1) ?_
    refine eR.step 1 (F' := (9, [(0, .ref 23)], [.ref 23])) (h' := (Wd C e P Q m0 N0 R t Z)) (fun _ _ => rfl) ?_
    refine eR.call (k' := 126) (as := [.ref 23]) (rest := []) (v := some (.int (nI (bi (decide (e 11 = 1)))))) (h1 := (Wd C e P Q m0 N0 R t Z)) rfl rfl rfl rfl (eg (Nat.le_of_ble_eq_true rfl) (show 20 ≤ lo by omega) (Nat.le_of_ble_eq_true rfl)) (m_clean V.B.dk) ?_
    refine eR.ifc rfl false (mb_et (decide_eq_true h11)) ?_
    refine eR.step 4 (F' := (22, [(0, .ref 23), (1, .int (nI 1))], [.int (nI 1)])) (h' := (Wd C e P Q m0 N0 R t Z)) (fun _ _ => rfl) ?_
    refine eR.ifc rfl false rfl ?_
    refine eR.step 3 (F' := (30, [(0, .ref 23), (1, .int (nI 1))], [.int (nI (m0)), .ref 23])) (h' := (Wd C e P Q m0 N0 R t Z)) (fun _ _ => rfl) ?_
    refine eR.call (k' := 127) (as := [.ref 23, .int (nI (m0))]) (rest := []) (v := some (.int (nI (ld e N0 m0)))) (h1 := (Wd C e P Q m0 N0 R t Z)) rfl rfl rfl rfl (eg (Nat.le_of_ble_eq_true rfl) (show 24 ≤ lo by omega) (Nat.le_of_ble_eq_true rfl)) (m_lead (show 112 ≤ lo - 24 by omega) V hN3 hml) ?_
    rw [hz h1]
    refine eR.step 3 (F' := (39, [(0, .ref 23), (1, .int (nI 1)), (2, .int (nI 0))], [.int (nI 0)])) (h' := (Wd C e P Q m0 N0 R t Z)) (fun _ _ => rfl) ?_
    refine eR.ifc rfl true rfl ?_
    refine eR.step 3 (F' := (65, [(0, .ref 23), (1, .int (nI 1)), (2, .int (nI 0)), (3, .int (nI 0))], [.int (nI 0)])) (h' := (Wd C e P Q m0 N0 R t Z)) (fun _ _ => rfl) ?_
    refine eR.ifc rfl true rfl ?_
    refine eR.step 4 (F' := (87, [(0, .ref 23), (1, .int (nI 1)), (2, .int (nI 0)), (3, .int (nI 0)), (4, .int ((-1 : Int32)))], [.int (nI 0), .ref 23])) (h' := (Wd C e P Q m0 N0 R t Z)) (fun _ _ => rfl) ?_
    refine eR.sim rfl (F := (90, [(0, .ref 23), (1, .int (nI 1)), (2, .int (nI 0)), (3, .int (nI 0)), (4, .int ((-1 : Int32)))], [])) (h' := (Wd C e P (Q.1, 0) m0 N0 R t Z)) (by rfl) ?_
    refine eR.step 1 (F' := (91, [(0, .ref 23), (1, .int (nI 1)), (2, .int (nI 0)), (3, .int (nI 0)), (4, .int ((-1 : Int32)))], [.ref 23])) (h' := (Wd C e P (Q.1, 0) m0 N0 R t Z)) (fun _ _ => rfl) ?_
    refine eR.call (k' := 123) (as := [.ref 23]) (rest := []) (v := some (.int (nI (ab e P N0)))) (h1 := (Wd C e (P.1, 0) (Q.1, 0) (pP P.1 P.2 N0).2.1 (pP P.1 P.2 N0).2.2 R (tf e (ab e P N0)) Z)) rfl rfl rfl rfl (eg (Nat.le_of_ble_eq_true rfl) (show 23 ≤ lo by omega) (Nat.le_of_ble_eq_true rfl)) (m_above (show 136 ≤ lo - 23 by omega) V hN3 ht hl) ?_
    rw [hp0, hm0, hN0]
    refine eR.step 3 (F' := (98, [(0, .ref 23), (1, .int (nI 1)), (2, .int (nI 0)), (3, .int (nI 0)), (4, .int ((-1 : Int32))), (5, .int (nI (p)))], [.int (nI 0), .ref 23])) (h' := (Wd C e (P.1, 0) (Q.1, 0) m1 N1 R (tf e p) Z)) (fun _ _ => rfl) ?_
    refine eR.ifc rfl false rfl ?_
    refine eR.step 3 (F' := (107, [(0, .ref 23), (1, .int (nI 1)), (2, .int (nI 0)), (3, .int (nI 0)), (4, .int ((-1 : Int32))), (5, .int (nI (p)))], [.int (nI 2), .int (nI 1), .ref 23])) (h' := (Wd C e (P.1, 0) (Q.1, 0) m1 N1 R (tf e p) Z)) (fun _ _ => rfl) ?_
    by_cases hp1 : p = 0
    · rw [tf_2 h11 hp1]
      refine eR.call (k' := 136) (as := [.ref 23, .int (nI 1), .int (nI 2)]) (rest := []) (v := none) (h1 := (Wd C e (P.1, 0) (Q.1, 0) m1 N1 R (ri true 2 2) Z)) rfl rfl rfl rfl (eg (Nat.le_of_ble_eq_true rfl) (show 22 ≤ lo by omega) (Nat.le_of_ble_eq_true rfl)) (m_refIf (b := true) (show 21 ≤ lo - 22 by omega) (by decide)) ?_
      rw [show ri true 2 2 = 2 from rfl]
      refine eR.step 2 (F' := (114, [(0, .ref 23), (1, .int (nI 1)), (2, .int (nI 0)), (3, .int (nI 0)), (4, .int ((-1 : Int32))), (5, .int (nI (p)))], [.int (nI 2)])) (h' := (Wd C e (P.1, 0) (Q.1, 0) m1 N1 R 2 Z)) (fun _ _ => rfl) ?_
      refine eR.ifc rfl true ((nc_ne (b := 0) (by omega) (by decide)).trans (decide_eq_true (by omega))) ?_
      refine eR.step 2 (F' := (206, [(0, .ref 23), (1, .int (nI 1)), (2, .int (nI 0)), (3, .int (nI 0)), (4, .int ((-1 : Int32))), (5, .int (nI (p)))], [.int (nI 2)])) (h' := (Wd C e (P.1, 0) (Q.1, 0) m1 N1 R 2 Z)) (fun _ _ => rfl) ?_
      refine eR.ifc rfl false ((nc_eq (b := 0) (by omega) (by decide)).trans (decide_eq_false (by omega))) ?_
      refine eR.step 1 (F' := (210, [(0, .ref 23), (1, .int (nI 1)), (2, .int (nI 0)), (3, .int (nI 0)), (4, .int ((-1 : Int32))), (5, .int (nI (p)))], [.int (nI 0)])) (h' := (Wd C e (P.1, 0) (Q.1, 0) m1 N1 R 2 Z)) (fun _ _ => rfl) ?_
      exact eR.ret rfl rfl rfl
    · rw [tf_0 h11 hp1]
      refine eR.call (k' := 136) (as := [.ref 23, .int (nI 1), .int (nI 2)]) (rest := []) (v := none) (h1 := (Wd C e (P.1, 0) (Q.1, 0) m1 N1 R (ri true 0 2) Z)) rfl rfl rfl rfl (eg (Nat.le_of_ble_eq_true rfl) (show 22 ≤ lo by omega) (Nat.le_of_ble_eq_true rfl)) (m_refIf (b := true) (show 21 ≤ lo - 22 by omega) (by decide)) ?_
      rw [show ri true 0 2 = 2 from rfl]
      refine eR.step 2 (F' := (114, [(0, .ref 23), (1, .int (nI 1)), (2, .int (nI 0)), (3, .int (nI 0)), (4, .int ((-1 : Int32))), (5, .int (nI (p)))], [.int (nI 2)])) (h' := (Wd C e (P.1, 0) (Q.1, 0) m1 N1 R 2 Z)) (fun _ _ => rfl) ?_
      refine eR.ifc rfl true ((nc_ne (b := 0) (by omega) (by decide)).trans (decide_eq_true (by omega))) ?_
      refine eR.step 2 (F' := (206, [(0, .ref 23), (1, .int (nI 1)), (2, .int (nI 0)), (3, .int (nI 0)), (4, .int ((-1 : Int32))), (5, .int (nI (p)))], [.int (nI 2)])) (h' := (Wd C e (P.1, 0) (Q.1, 0) m1 N1 R 2 Z)) (fun _ _ => rfl) ?_
      refine eR.ifc rfl false ((nc_eq (b := 0) (by omega) (by decide)).trans (decide_eq_false (by omega))) ?_
      refine eR.step 1 (F' := (210, [(0, .ref 23), (1, .int (nI 1)), (2, .int (nI 0)), (3, .int (nI 0)), (4, .int ((-1 : Int32))), (5, .int (nI (p)))], [.int (nI 0)])) (h' := (Wd C e (P.1, 0) (Q.1, 0) m1 N1 R 2 Z)) (fun _ _ => rfl) ?_
      exact eR.ret rfl rfl rfl
  · refine eR.ifc rfl true (mb_ef h1) ?_
    refine eR.step 3 (F' := (22, [(0, .ref 23), (1, .int (nI 0))], [.int (nI 0)])) (h' := (Wd C e P Q m0 N0 R t Z)) (fun _ _ => rfl) ?_
    refine eR.ifc rfl true rfl ?_
    refine eR.step 3 (F' := (39, [(0, .ref 23), (1, .int (nI 0)), (2, .int (nI 0))], [.int (nI 0)])) (h' := (Wd C e P Q m0 N0 R t Z)) (fun _ _ => rfl) ?_
    refine eR.ifc rfl true rfl ?_
    refine eR.step 3 (F' := (65, [(0, .ref 23), (1, .int (nI 0)), (2, .int (nI 0)), (3, .int (nI 0))], [.int (nI 0)])) (h' := (Wd C e P Q m0 N0 R t Z)) (fun _ _ => rfl) ?_
    refine eR.ifc rfl true rfl ?_
    refine eR.step 4 (F' := (87, [(0, .ref 23), (1, .int (nI 0)), (2, .int (nI 0)), (3, .int (nI 0)), (4, .int ((-1 : Int32)))], [.int (nI 0), .ref 23])) (h' := (Wd C e P Q m0 N0 R t Z)) (fun _ _ => rfl) ?_
    refine eR.sim rfl (F := (90, [(0, .ref 23), (1, .int (nI 0)), (2, .int (nI 0)), (3, .int (nI 0)), (4, .int ((-1 : Int32)))], [])) (h' := (Wd C e P (Q.1, 0) m0 N0 R t Z)) (by rfl) ?_
    refine eR.step 1 (F' := (91, [(0, .ref 23), (1, .int (nI 0)), (2, .int (nI 0)), (3, .int (nI 0)), (4, .int ((-1 : Int32)))], [.ref 23])) (h' := (Wd C e P (Q.1, 0) m0 N0 R t Z)) (fun _ _ => rfl) ?_
    refine eR.call (k' := 123) (as := [.ref 23]) (rest := []) (v := some (.int (nI (ab e P N0)))) (h1 := (Wd C e (P.1, 0) (Q.1, 0) (pP P.1 P.2 N0).2.1 (pP P.1 P.2 N0).2.2 R (tf e (ab e P N0)) Z)) rfl rfl rfl rfl (eg (Nat.le_of_ble_eq_true rfl) (show 23 ≤ lo by omega) (Nat.le_of_ble_eq_true rfl)) (m_above (show 136 ≤ lo - 23 by omega) V hN3 ht hl) ?_
    rw [hp0, hm0, hN0]
    refine eR.step 3 (F' := (98, [(0, .ref 23), (1, .int (nI 0)), (2, .int (nI 0)), (3, .int (nI 0)), (4, .int ((-1 : Int32))), (5, .int (nI (p)))], [.int (nI 0), .ref 23])) (h' := (Wd C e (P.1, 0) (Q.1, 0) m1 N1 R (tf e p) Z)) (fun _ _ => rfl) ?_
    refine eR.ifc rfl false rfl ?_
    refine eR.step 3 (F' := (107, [(0, .ref 23), (1, .int (nI 0)), (2, .int (nI 0)), (3, .int (nI 0)), (4, .int ((-1 : Int32))), (5, .int (nI (p)))], [.int (nI 2), .int (nI 1), .ref 23])) (h' := (Wd C e (P.1, 0) (Q.1, 0) m1 N1 R (tf e p) Z)) (fun _ _ => rfl) ?_
    by_cases hp1 : p = 0
    · rw [tf_2 h11 hp1]
      refine eR.call (k' := 136) (as := [.ref 23, .int (nI 1), .int (nI 2)]) (rest := []) (v := none) (h1 := (Wd C e (P.1, 0) (Q.1, 0) m1 N1 R (ri true 2 2) Z)) rfl rfl rfl rfl (eg (Nat.le_of_ble_eq_true rfl) (show 22 ≤ lo by omega) (Nat.le_of_ble_eq_true rfl)) (m_refIf (b := true) (show 21 ≤ lo - 22 by omega) (by decide)) ?_
      rw [show ri true 2 2 = 2 from rfl]
      refine eR.step 2 (F' := (114, [(0, .ref 23), (1, .int (nI 0)), (2, .int (nI 0)), (3, .int (nI 0)), (4, .int ((-1 : Int32))), (5, .int (nI (p)))], [.int (nI 2)])) (h' := (Wd C e (P.1, 0) (Q.1, 0) m1 N1 R 2 Z)) (fun _ _ => rfl) ?_
      refine eR.ifc rfl true ((nc_ne (b := 0) (by omega) (by decide)).trans (decide_eq_true (by omega))) ?_
      refine eR.step 2 (F' := (206, [(0, .ref 23), (1, .int (nI 0)), (2, .int (nI 0)), (3, .int (nI 0)), (4, .int ((-1 : Int32))), (5, .int (nI (p)))], [.int (nI 2)])) (h' := (Wd C e (P.1, 0) (Q.1, 0) m1 N1 R 2 Z)) (fun _ _ => rfl) ?_
      refine eR.ifc rfl false ((nc_eq (b := 0) (by omega) (by decide)).trans (decide_eq_false (by omega))) ?_
      refine eR.step 1 (F' := (210, [(0, .ref 23), (1, .int (nI 0)), (2, .int (nI 0)), (3, .int (nI 0)), (4, .int ((-1 : Int32))), (5, .int (nI (p)))], [.int (nI 0)])) (h' := (Wd C e (P.1, 0) (Q.1, 0) m1 N1 R 2 Z)) (fun _ _ => rfl) ?_
      exact eR.ret rfl rfl rfl
    · rw [tf_0 h11 hp1]
      refine eR.call (k' := 136) (as := [.ref 23, .int (nI 1), .int (nI 2)]) (rest := []) (v := none) (h1 := (Wd C e (P.1, 0) (Q.1, 0) m1 N1 R (ri true 0 2) Z)) rfl rfl rfl rfl (eg (Nat.le_of_ble_eq_true rfl) (show 22 ≤ lo by omega) (Nat.le_of_ble_eq_true rfl)) (m_refIf (b := true) (show 21 ≤ lo - 22 by omega) (by decide)) ?_
      rw [show ri true 0 2 = 2 from rfl]
      refine eR.step 2 (F' := (114, [(0, .ref 23), (1, .int (nI 0)), (2, .int (nI 0)), (3, .int (nI 0)), (4, .int ((-1 : Int32))), (5, .int (nI (p)))], [.int (nI 2)])) (h' := (Wd C e (P.1, 0) (Q.1, 0) m1 N1 R 2 Z)) (fun _ _ => rfl) ?_
      refine eR.ifc rfl true ((nc_ne (b := 0) (by omega) (by decide)).trans (decide_eq_true (by omega))) ?_
      refine eR.step 2 (F' := (206, [(0, .ref 23), (1, .int (nI 0)), (2, .int (nI 0)), (3, .int (nI 0)), (4, .int ((-1 : Int32))), (5, .int (nI (p)))], [.int (nI 2)])) (h' := (Wd C e (P.1, 0) (Q.1, 0) m1 N1 R 2 Z)) (fun _ _ => rfl) ?_
      refine eR.ifc rfl false ((nc_eq (b := 0) (by omega) (by decide)).trans (decide_eq_false (by omega))) ?_
      refine eR.step 1 (F' := (210, [(0, .ref 23), (1, .int (nI 0)), (2, .int (nI 0)), (3, .int (nI 0)), (4, .int ((-1 : Int32))), (5, .int (nI (p)))], [.int (nI 0)])) (h' := (Wd C e (P.1, 0) (Q.1, 0) m1 N1 R 2 Z)) (fun _ _ => rfl) ?_
      exact eR.ret rfl rfl rfl
theorem m_renamePR {cm sm fr lo : Nat} {C : gC} {e : Nat → Nat} {P Q : gT} {m : Nat} {N : Nat → Nat} {R : gS} {t : Nat} {Z : mj_H} (hlo : 159 ≤ lo) (V : qV e) (hN : ∀ k, N k < 256) (ht : ∀ k, P.1 k < 65536) (hl : P.2 ≤ 40) (ht2 : ∀ k, Q.1 k < 65536) (hl2 : Q.2 ≤ 40) {f p m1 m0 : Nat} {N1 N0 : Nat → Nat} (hq0 : (pP Q.1 Q.2 N).2.1 = m0) (hqN : (pP Q.1 Q.2 N).2.2 = N0) (hp0 : ab e P N0 = p) (hm0 : (pP P.1 P.2 N0).2.1 = m1) (hN0 : (pP P.1 P.2 N0).2.2 = N1) (hN3 : ∀ k, N0 k < 256) (h11 : e 11 = 1) (h1 : (pP Q.1 Q.2 N).1 = true) (hld : ld e N0 m0 = f) (hfn : ¬ f = 0) (hf : f < 16) (hm : m0 = 0) (hp1 : p = 0) : eE mm_P cm sm (fr + 8) lo 150 [.ref 23] (Wd C e P Q m N R t Z) (.inl (some (.int (nI 0))), (Wd C e (P.1, 0) (Q.1, 0) m1 N1 R 2 Z)) := by
  refine eE.of ?_
  have htf := tf_le e p
  have h11b := V.B.dk.1 11
  refine eR.step 2 (F' := (2, [(0, .ref 23)], [.int (nI 1), .ref 23])) (h' := (Wd C e P Q m N R t Z)) (fun _ _ => rfl) ?_
  refine eR.call (k' := 124) (as := [.ref 23, .int (nI 1)]) (rest := []) (v := some (.int (nI (bi (pP Q.1 Q.2 N).1)))) (h1 := (Wd C e P Q (pP Q.1 Q.2 N).2.1 (pP Q.1 Q.2 N).2.2 R t Z)) rfl rfl rfl rfl (eg (Nat.le_of_ble_eq_true rfl) (show 25 ≤ lo by omega) (Nat.le_of_ble_eq_true rfl)) (m_parse1 (show 22 ≤ lo - 25 by omega) ht2 hl2) ?_
  rw [hq0, hqN]
  have hml := pP_len hl2 h1
  rw [hq0] at hml
  refine eR.ifc rfl false (mb_et h1) ?_
  refine eR.step 1 (F' := (9, [(0, .ref 23)], [.ref 23])) (h' := (Wd C e P Q m0 N0 R t Z)) (fun _ _ => rfl) ?_
  refine eR.call (k' := 126) (as := [.ref 23]) (rest := []) (v := some (.int (nI (bi (decide (e 11 = 1)))))) (h1 := (Wd C e P Q m0 N0 R t Z)) rfl rfl rfl rfl (eg (Nat.le_of_ble_eq_true rfl) (show 20 ≤ lo by omega) (Nat.le_of_ble_eq_true rfl)) (m_clean V.B.dk) ?_
  refine eR.ifc rfl false (mb_et (decide_eq_true h11)) ?_
  refine eR.step 4 (F' := (22, [(0, .ref 23), (1, .int (nI 1))], [.int (nI 1)])) (h' := (Wd C e P Q m0 N0 R t Z)) (fun _ _ => rfl) ?_
  refine eR.ifc rfl false rfl ?_
  refine eR.step 3 (F' := (30, [(0, .ref 23), (1, .int (nI 1))], [.int (nI (m0)), .ref 23])) (h' := (Wd C e P Q m0 N0 R t Z)) (fun _ _ => rfl) ?_
  refine eR.call (k' := 127) (as := [.ref 23, .int (nI (m0))]) (rest := []) (v := some (.int (nI (ld e N0 m0)))) (h1 := (Wd C e P Q m0 N0 R t Z)) rfl rfl rfl rfl (eg (Nat.le_of_ble_eq_true rfl) (show 24 ≤ lo by omega) (Nat.le_of_ble_eq_true rfl)) (m_lead (show 112 ≤ lo - 24 by omega) V hN3 hml) ?_
  rw [hld]
  refine eR.step 3 (F' := (39, [(0, .ref 23), (1, .int (nI 1)), (2, .int (nI (f)))], [.int (nI (f))])) (h' := (Wd C e P Q m0 N0 R t Z)) (fun _ _ => rfl) ?_
  refine eR.ifc rfl false ((nc_eq (b := 0) (by omega) (by decide)).trans (decide_eq_false (by omega))) ?_
  refine eR.step 2 (F' := (46, [(0, .ref 23), (1, .int (nI 1)), (2, .int (nI (f)))], [.int (nI (m0))])) (h' := (Wd C e P Q m0 N0 R t Z)) (fun _ _ => rfl) ?_
  refine eR.ifc rfl true ((nc_le (b := 0) (by omega) (by decide)).trans (decide_eq_true (by omega))) ?_
  refine eR.step 3 (F' := (65, [(0, .ref 23), (1, .int (nI 1)), (2, .int (nI (f))), (3, .int (nI 0))], [.int (nI 0)])) (h' := (Wd C e P Q m0 N0 R t Z)) (fun _ _ => rfl) ?_
  refine eR.ifc rfl true rfl ?_
  refine eR.step 4 (F' := (87, [(0, .ref 23), (1, .int (nI 1)), (2, .int (nI (f))), (3, .int (nI 0)), (4, .int ((-1 : Int32)))], [.int (nI 0), .ref 23])) (h' := (Wd C e P Q m0 N0 R t Z)) (fun _ _ => rfl) ?_
  refine eR.sim rfl (F := (90, [(0, .ref 23), (1, .int (nI 1)), (2, .int (nI (f))), (3, .int (nI 0)), (4, .int ((-1 : Int32)))], [])) (h' := (Wd C e P (Q.1, 0) m0 N0 R t Z)) (by rfl) ?_
  refine eR.step 1 (F' := (91, [(0, .ref 23), (1, .int (nI 1)), (2, .int (nI (f))), (3, .int (nI 0)), (4, .int ((-1 : Int32)))], [.ref 23])) (h' := (Wd C e P (Q.1, 0) m0 N0 R t Z)) (fun _ _ => rfl) ?_
  refine eR.call (k' := 123) (as := [.ref 23]) (rest := []) (v := some (.int (nI (ab e P N0)))) (h1 := (Wd C e (P.1, 0) (Q.1, 0) (pP P.1 P.2 N0).2.1 (pP P.1 P.2 N0).2.2 R (tf e (ab e P N0)) Z)) rfl rfl rfl rfl (eg (Nat.le_of_ble_eq_true rfl) (show 23 ≤ lo by omega) (Nat.le_of_ble_eq_true rfl)) (m_above (show 136 ≤ lo - 23 by omega) V hN3 ht hl) ?_
  rw [hp0, hm0, hN0]
  refine eR.step 3 (F' := (98, [(0, .ref 23), (1, .int (nI 1)), (2, .int (nI (f))), (3, .int (nI 0)), (4, .int ((-1 : Int32))), (5, .int (nI (p)))], [.int (nI (f)), .ref 23])) (h' := (Wd C e (P.1, 0) (Q.1, 0) m1 N1 R (tf e p) Z)) (fun _ _ => rfl) ?_
  refine eR.ifc rfl true ((nc_ne (b := 0) (by omega) (by decide)).trans (decide_eq_true (by omega))) ?_
  refine eR.step 2 (F' := (107, [(0, .ref 23), (1, .int (nI 1)), (2, .int (nI (f))), (3, .int (nI 0)), (4, .int ((-1 : Int32))), (5, .int (nI (p)))], [.int (nI 2), .int (nI 0), .ref 23])) (h' := (Wd C e (P.1, 0) (Q.1, 0) m1 N1 R (tf e p) Z)) (fun _ _ => rfl) ?_
  rw [tf_2 h11 hp1]
  refine eR.call (k' := 136) (as := [.ref 23, .int (nI 0), .int (nI 2)]) (rest := []) (v := none) (h1 := (Wd C e (P.1, 0) (Q.1, 0) m1 N1 R (ri false 2 2) Z)) rfl rfl rfl rfl (eg (Nat.le_of_ble_eq_true rfl) (show 22 ≤ lo by omega) (Nat.le_of_ble_eq_true rfl)) (m_refIf (b := false) (show 21 ≤ lo - 22 by omega) (by decide)) ?_
  rw [show ri false 2 2 = 2 from rfl]
  refine eR.step 2 (F' := (114, [(0, .ref 23), (1, .int (nI 1)), (2, .int (nI (f))), (3, .int (nI 0)), (4, .int ((-1 : Int32))), (5, .int (nI (p)))], [.int (nI 2)])) (h' := (Wd C e (P.1, 0) (Q.1, 0) m1 N1 R 2 Z)) (fun _ _ => rfl) ?_
  refine eR.ifc rfl true ((nc_ne (b := 0) (by omega) (by decide)).trans (decide_eq_true (by omega))) ?_
  refine eR.step 2 (F' := (206, [(0, .ref 23), (1, .int (nI 1)), (2, .int (nI (f))), (3, .int (nI 0)), (4, .int ((-1 : Int32))), (5, .int (nI (p)))], [.int (nI 2)])) (h' := (Wd C e (P.1, 0) (Q.1, 0) m1 N1 R 2 Z)) (fun _ _ => rfl) ?_
  refine eR.ifc rfl false ((nc_eq (b := 0) (by omega) (by decide)).trans (decide_eq_false (by omega))) ?_
  refine eR.step 1 (F' := (210, [(0, .ref 23), (1, .int (nI 1)), (2, .int (nI (f))), (3, .int (nI 0)), (4, .int ((-1 : Int32))), (5, .int (nI (p)))], [.int (nI 0)])) (h' := (Wd C e (P.1, 0) (Q.1, 0) m1 N1 R 2 Z)) (fun _ _ => rfl) ?_
  exact eR.ret rfl rfl rfl
theorem m_renamePN {cm sm fr lo : Nat} {C : gC} {e : Nat → Nat} {P Q : gT} {m : Nat} {N : Nat → Nat} {R : gS} {t : Nat} {Z : mj_H} (hlo : 159 ≤ lo) (V : qV e) (hN : ∀ k, N k < 256) (ht : ∀ k, P.1 k < 65536) (hl : P.2 ≤ 40) (ht2 : ∀ k, Q.1 k < 65536) (hl2 : Q.2 ≤ 40) {f p p0 m1 m0 : Nat} {N1 N0 : Nat → Nat} (hq0 : (pP Q.1 Q.2 N).2.1 = m0) (hqN : (pP Q.1 Q.2 N).2.2 = N0) (hp0 : ab e P N0 = p) (hm0 : (pP P.1 P.2 N0).2.1 = m1) (hN0 : (pP P.1 P.2 N0).2.2 = N1) (hN3 : ∀ k, N0 k < 256) (h11 : e 11 = 1) (h1 : (pP Q.1 Q.2 N).1 = true) (hld : ld e N0 m0 = f) (hfn : ¬ f = 0) (hf : f < 16) (hm : 0 < m0) (hld0 : ld e N0 (m0 - 1) = p0) (hp0n : ¬ p0 = 0) (hp016 : p0 < 16) (hD0 : gD e p0) {j : Nat} (hj : fd e p0 (fun q => N0 (7 * (m0 - 1) + q)) 2 (sn e p0 - 2) = j) (hj2 : 2 ≤ j) (hj24 : j < 24) (hp1 : p = 0) : eE mm_P cm sm (fr + 8) lo 150 [.ref 23] (Wd C e P Q m N R t Z) (.inl (some (.int (nI 0))), (Wd C e (P.1, 0) (Q.1, 0) m1 N1 R 2 Z)) := by
  refine eE.of ?_
  have htf := tf_le e p
  have h11b := V.B.dk.1 11
  refine eR.step 2 (F' := (2, [(0, .ref 23)], [.int (nI 1), .ref 23])) (h' := (Wd C e P Q m N R t Z)) (fun _ _ => rfl) ?_
  refine eR.call (k' := 124) (as := [.ref 23, .int (nI 1)]) (rest := []) (v := some (.int (nI (bi (pP Q.1 Q.2 N).1)))) (h1 := (Wd C e P Q (pP Q.1 Q.2 N).2.1 (pP Q.1 Q.2 N).2.2 R t Z)) rfl rfl rfl rfl (eg (Nat.le_of_ble_eq_true rfl) (show 25 ≤ lo by omega) (Nat.le_of_ble_eq_true rfl)) (m_parse1 (show 22 ≤ lo - 25 by omega) ht2 hl2) ?_
  rw [hq0, hqN]
  have hml := pP_len hl2 h1
  rw [hq0] at hml
  refine eR.ifc rfl false (mb_et h1) ?_
  refine eR.step 1 (F' := (9, [(0, .ref 23)], [.ref 23])) (h' := (Wd C e P Q m0 N0 R t Z)) (fun _ _ => rfl) ?_
  refine eR.call (k' := 126) (as := [.ref 23]) (rest := []) (v := some (.int (nI (bi (decide (e 11 = 1)))))) (h1 := (Wd C e P Q m0 N0 R t Z)) rfl rfl rfl rfl (eg (Nat.le_of_ble_eq_true rfl) (show 20 ≤ lo by omega) (Nat.le_of_ble_eq_true rfl)) (m_clean V.B.dk) ?_
  refine eR.ifc rfl false (mb_et (decide_eq_true h11)) ?_
  refine eR.step 4 (F' := (22, [(0, .ref 23), (1, .int (nI 1))], [.int (nI 1)])) (h' := (Wd C e P Q m0 N0 R t Z)) (fun _ _ => rfl) ?_
  refine eR.ifc rfl false rfl ?_
  refine eR.step 3 (F' := (30, [(0, .ref 23), (1, .int (nI 1))], [.int (nI (m0)), .ref 23])) (h' := (Wd C e P Q m0 N0 R t Z)) (fun _ _ => rfl) ?_
  refine eR.call (k' := 127) (as := [.ref 23, .int (nI (m0))]) (rest := []) (v := some (.int (nI (ld e N0 m0)))) (h1 := (Wd C e P Q m0 N0 R t Z)) rfl rfl rfl rfl (eg (Nat.le_of_ble_eq_true rfl) (show 24 ≤ lo by omega) (Nat.le_of_ble_eq_true rfl)) (m_lead (show 112 ≤ lo - 24 by omega) V hN3 hml) ?_
  rw [hld]
  refine eR.step 3 (F' := (39, [(0, .ref 23), (1, .int (nI 1)), (2, .int (nI (f)))], [.int (nI (f))])) (h' := (Wd C e P Q m0 N0 R t Z)) (fun _ _ => rfl) ?_
  refine eR.ifc rfl false ((nc_eq (b := 0) (by omega) (by decide)).trans (decide_eq_false (by omega))) ?_
  refine eR.step 2 (F' := (46, [(0, .ref 23), (1, .int (nI 1)), (2, .int (nI (f)))], [.int (nI (m0))])) (h' := (Wd C e P Q m0 N0 R t Z)) (fun _ _ => rfl) ?_
  refine eR.ifc rfl false ((nc_le (b := 0) (by omega) (by decide)).trans (decide_eq_false (by omega))) ?_
  refine eR.step 4 (F' := (55, [(0, .ref 23), (1, .int (nI 1)), (2, .int (nI (f)))], [.int (nI 1), .int (nI (m0)), .ref 23])) (h' := (Wd C e P Q m0 N0 R t Z)) (fun _ _ => rfl) ?_
  refine eR.nsub rfl (by omega) ?_
  refine eR.call (k' := 127) (as := [.ref 23, .int (nI (m0 - 1))]) (rest := []) (v := some (.int (nI (ld e N0 (m0 - 1))))) (h1 := (Wd C e P Q m0 N0 R t Z)) rfl rfl rfl rfl (eg (Nat.le_of_ble_eq_true rfl) (show 24 ≤ lo by omega) (Nat.le_of_ble_eq_true rfl)) (m_lead (show 112 ≤ lo - 24 by omega) V hN3 (by omega)) ?_
  rw [hld0]
  refine eR.step 3 (F' := (65, [(0, .ref 23), (1, .int (nI 1)), (2, .int (nI (f))), (3, .int (nI (p0)))], [.int (nI (p0))])) (h' := (Wd C e P Q m0 N0 R t Z)) (fun _ _ => rfl) ?_
  refine eR.ifc rfl false ((nc_eq (b := 0) (by omega) (by decide)).trans (decide_eq_false (by omega))) ?_
  refine eR.step 5 (F' := (75, [(0, .ref 23), (1, .int (nI 1)), (2, .int (nI (f))), (3, .int (nI (p0)))], [.int (nI 1), .int (nI (m0)), .int (nI (p0)), .ref 23])) (h' := (Wd C e P Q m0 N0 R t Z)) (fun _ _ => rfl) ?_
  refine eR.nsub rfl (by omega) ?_
  refine eR.call (k' := 129) (as := [.ref 23, .int (nI (p0)), .int (nI (m0 - 1))]) (rest := []) (v := some (.int (fi (fd e p0 (fun q => N0 (7 * (m0 - 1) + q)) 2 (sn e p0 - 2))))) (h1 := (Wd C e P Q m0 N0 R t Z)) rfl rfl rfl rfl (eg (Nat.le_of_ble_eq_true rfl) (show 24 ≤ lo by omega) (Nat.le_of_ble_eq_true rfl)) (m_slotOf (show 88 ≤ lo - 24 by omega) V.B.dk hD0 (fun k => Nat.lt_trans (hN3 k) (by decide)) (by omega)) ?_
  rw [hj, fi_n (by omega)]
  refine eR.step 4 (F' := (87, [(0, .ref 23), (1, .int (nI 1)), (2, .int (nI (f))), (3, .int (nI (p0))), (4, .int (nI (j)))], [.int (nI 0), .ref 23])) (h' := (Wd C e P Q m0 N0 R t Z)) (fun _ _ => rfl) ?_
  refine eR.sim rfl (F := (90, [(0, .ref 23), (1, .int (nI 1)), (2, .int (nI (f))), (3, .int (nI (p0))), (4, .int (nI (j)))], [])) (h' := (Wd C e P (Q.1, 0) m0 N0 R t Z)) (by rfl) ?_
  refine eR.step 1 (F' := (91, [(0, .ref 23), (1, .int (nI 1)), (2, .int (nI (f))), (3, .int (nI (p0))), (4, .int (nI (j)))], [.ref 23])) (h' := (Wd C e P (Q.1, 0) m0 N0 R t Z)) (fun _ _ => rfl) ?_
  refine eR.call (k' := 123) (as := [.ref 23]) (rest := []) (v := some (.int (nI (ab e P N0)))) (h1 := (Wd C e (P.1, 0) (Q.1, 0) (pP P.1 P.2 N0).2.1 (pP P.1 P.2 N0).2.2 R (tf e (ab e P N0)) Z)) rfl rfl rfl rfl (eg (Nat.le_of_ble_eq_true rfl) (show 23 ≤ lo by omega) (Nat.le_of_ble_eq_true rfl)) (m_above (show 136 ≤ lo - 23 by omega) V hN3 ht hl) ?_
  rw [hp0, hm0, hN0]
  refine eR.step 3 (F' := (98, [(0, .ref 23), (1, .int (nI 1)), (2, .int (nI (f))), (3, .int (nI (p0))), (4, .int (nI (j))), (5, .int (nI (p)))], [.int (nI (f)), .ref 23])) (h' := (Wd C e (P.1, 0) (Q.1, 0) m1 N1 R (tf e p) Z)) (fun _ _ => rfl) ?_
  refine eR.ifc rfl true ((nc_ne (b := 0) (by omega) (by decide)).trans (decide_eq_true (by omega))) ?_
  refine eR.step 2 (F' := (107, [(0, .ref 23), (1, .int (nI 1)), (2, .int (nI (f))), (3, .int (nI (p0))), (4, .int (nI (j))), (5, .int (nI (p)))], [.int (nI 2), .int (nI 0), .ref 23])) (h' := (Wd C e (P.1, 0) (Q.1, 0) m1 N1 R (tf e p) Z)) (fun _ _ => rfl) ?_
  rw [tf_2 h11 hp1]
  refine eR.call (k' := 136) (as := [.ref 23, .int (nI 0), .int (nI 2)]) (rest := []) (v := none) (h1 := (Wd C e (P.1, 0) (Q.1, 0) m1 N1 R (ri false 2 2) Z)) rfl rfl rfl rfl (eg (Nat.le_of_ble_eq_true rfl) (show 22 ≤ lo by omega) (Nat.le_of_ble_eq_true rfl)) (m_refIf (b := false) (show 21 ≤ lo - 22 by omega) (by decide)) ?_
  rw [show ri false 2 2 = 2 from rfl]
  refine eR.step 2 (F' := (114, [(0, .ref 23), (1, .int (nI 1)), (2, .int (nI (f))), (3, .int (nI (p0))), (4, .int (nI (j))), (5, .int (nI (p)))], [.int (nI 2)])) (h' := (Wd C e (P.1, 0) (Q.1, 0) m1 N1 R 2 Z)) (fun _ _ => rfl) ?_
  refine eR.ifc rfl true ((nc_ne (b := 0) (by omega) (by decide)).trans (decide_eq_true (by omega))) ?_
  refine eR.step 2 (F' := (206, [(0, .ref 23), (1, .int (nI 1)), (2, .int (nI (f))), (3, .int (nI (p0))), (4, .int (nI (j))), (5, .int (nI (p)))], [.int (nI 2)])) (h' := (Wd C e (P.1, 0) (Q.1, 0) m1 N1 R 2 Z)) (fun _ _ => rfl) ?_
  refine eR.ifc rfl false ((nc_eq (b := 0) (by omega) (by decide)).trans (decide_eq_false (by omega))) ?_
  refine eR.step 1 (F' := (210, [(0, .ref 23), (1, .int (nI 1)), (2, .int (nI (f))), (3, .int (nI (p0))), (4, .int (nI (j))), (5, .int (nI (p)))], [.int (nI 0)])) (h' := (Wd C e (P.1, 0) (Q.1, 0) m1 N1 R 2 Z)) (fun _ _ => rfl) ?_
  exact eR.ret rfl rfl rfl
theorem m_rename3 {cm sm fr lo : Nat} {C : gC} {e : Nat → Nat} {P Q : gT} {m : Nat} {N : Nat → Nat} {R : gS} {t : Nat} {Z : mj_H} (hlo : 159 ≤ lo) (V : qV e) (hN : ∀ k, N k < 256) (ht : ∀ k, P.1 k < 65536) (hl : P.2 ≤ 40) (ht2 : ∀ k, Q.1 k < 65536) (hl2 : Q.2 ≤ 40) {f p m1 m0 : Nat} {N1 N0 : Nat → Nat} (hq0 : (pP Q.1 Q.2 N).2.1 = m0) (hqN : (pP Q.1 Q.2 N).2.2 = N0) (hp0 : ab e P N0 = p) (hm0 : (pP P.1 P.2 N0).2.1 = m1) (hN0 : (pP P.1 P.2 N0).2.2 = N1) (hN3 : ∀ k, N0 k < 256) (h11 : e 11 = 1) (h1 : (pP Q.1 Q.2 N).1 = true) (hld : ld e N0 m0 = f) (hfn : ¬ f = 0) (hf : f < 16) (hm : m0 = 0) (hpn : ¬ p = 0) (hm1 : 1 ≤ m1) (hm2 : m1 ≤ 20) (hN1 : ∀ k, N1 k < 256) (hp : p < 16) (hkp : e (32 + (16 * p)) = 2) (hD : gD e p) (hf1 : f = 1) : eE mm_P cm sm (fr + 8) lo 150 [.ref 23] (Wd C e P Q m N R t Z) (.inl (some (.int (nI 0))), (Wd C e (P.1, 0) (Q.1, 0) m1 N1 R 3 Z)) := by
  refine eE.of ?_
  have htf := tf_le e p
  have h11b := V.B.dk.1 11
  refine eR.step 2 (F' := (2, [(0, .ref 23)], [.int (nI 1), .ref 23])) (h' := (Wd C e P Q m N R t Z)) (fun _ _ => rfl) ?_
  refine eR.call (k' := 124) (as := [.ref 23, .int (nI 1)]) (rest := []) (v := some (.int (nI (bi (pP Q.1 Q.2 N).1)))) (h1 := (Wd C e P Q (pP Q.1 Q.2 N).2.1 (pP Q.1 Q.2 N).2.2 R t Z)) rfl rfl rfl rfl (eg (Nat.le_of_ble_eq_true rfl) (show 25 ≤ lo by omega) (Nat.le_of_ble_eq_true rfl)) (m_parse1 (show 22 ≤ lo - 25 by omega) ht2 hl2) ?_
  rw [hq0, hqN]
  have hml := pP_len hl2 h1
  rw [hq0] at hml
  refine eR.ifc rfl false (mb_et h1) ?_
  refine eR.step 1 (F' := (9, [(0, .ref 23)], [.ref 23])) (h' := (Wd C e P Q m0 N0 R t Z)) (fun _ _ => rfl) ?_
  refine eR.call (k' := 126) (as := [.ref 23]) (rest := []) (v := some (.int (nI (bi (decide (e 11 = 1)))))) (h1 := (Wd C e P Q m0 N0 R t Z)) rfl rfl rfl rfl (eg (Nat.le_of_ble_eq_true rfl) (show 20 ≤ lo by omega) (Nat.le_of_ble_eq_true rfl)) (m_clean V.B.dk) ?_
  refine eR.ifc rfl false (mb_et (decide_eq_true h11)) ?_
  refine eR.step 4 (F' := (22, [(0, .ref 23), (1, .int (nI 1))], [.int (nI 1)])) (h' := (Wd C e P Q m0 N0 R t Z)) (fun _ _ => rfl) ?_
  refine eR.ifc rfl false rfl ?_
  refine eR.step 3 (F' := (30, [(0, .ref 23), (1, .int (nI 1))], [.int (nI (m0)), .ref 23])) (h' := (Wd C e P Q m0 N0 R t Z)) (fun _ _ => rfl) ?_
  refine eR.call (k' := 127) (as := [.ref 23, .int (nI (m0))]) (rest := []) (v := some (.int (nI (ld e N0 m0)))) (h1 := (Wd C e P Q m0 N0 R t Z)) rfl rfl rfl rfl (eg (Nat.le_of_ble_eq_true rfl) (show 24 ≤ lo by omega) (Nat.le_of_ble_eq_true rfl)) (m_lead (show 112 ≤ lo - 24 by omega) V hN3 hml) ?_
  rw [hld]
  refine eR.step 3 (F' := (39, [(0, .ref 23), (1, .int (nI 1)), (2, .int (nI (f)))], [.int (nI (f))])) (h' := (Wd C e P Q m0 N0 R t Z)) (fun _ _ => rfl) ?_
  refine eR.ifc rfl false ((nc_eq (b := 0) (by omega) (by decide)).trans (decide_eq_false (by omega))) ?_
  refine eR.step 2 (F' := (46, [(0, .ref 23), (1, .int (nI 1)), (2, .int (nI (f)))], [.int (nI (m0))])) (h' := (Wd C e P Q m0 N0 R t Z)) (fun _ _ => rfl) ?_
  refine eR.ifc rfl true ((nc_le (b := 0) (by omega) (by decide)).trans (decide_eq_true (by omega))) ?_
  refine eR.step 3 (F' := (65, [(0, .ref 23), (1, .int (nI 1)), (2, .int (nI (f))), (3, .int (nI 0))], [.int (nI 0)])) (h' := (Wd C e P Q m0 N0 R t Z)) (fun _ _ => rfl) ?_
  refine eR.ifc rfl true rfl ?_
  refine eR.step 4 (F' := (87, [(0, .ref 23), (1, .int (nI 1)), (2, .int (nI (f))), (3, .int (nI 0)), (4, .int ((-1 : Int32)))], [.int (nI 0), .ref 23])) (h' := (Wd C e P Q m0 N0 R t Z)) (fun _ _ => rfl) ?_
  refine eR.sim rfl (F := (90, [(0, .ref 23), (1, .int (nI 1)), (2, .int (nI (f))), (3, .int (nI 0)), (4, .int ((-1 : Int32)))], [])) (h' := (Wd C e P (Q.1, 0) m0 N0 R t Z)) (by rfl) ?_
  refine eR.step 1 (F' := (91, [(0, .ref 23), (1, .int (nI 1)), (2, .int (nI (f))), (3, .int (nI 0)), (4, .int ((-1 : Int32)))], [.ref 23])) (h' := (Wd C e P (Q.1, 0) m0 N0 R t Z)) (fun _ _ => rfl) ?_
  refine eR.call (k' := 123) (as := [.ref 23]) (rest := []) (v := some (.int (nI (ab e P N0)))) (h1 := (Wd C e (P.1, 0) (Q.1, 0) (pP P.1 P.2 N0).2.1 (pP P.1 P.2 N0).2.2 R (tf e (ab e P N0)) Z)) rfl rfl rfl rfl (eg (Nat.le_of_ble_eq_true rfl) (show 23 ≤ lo by omega) (Nat.le_of_ble_eq_true rfl)) (m_above (show 136 ≤ lo - 23 by omega) V hN3 ht hl) ?_
  rw [hp0, hm0, hN0]
  refine eR.step 3 (F' := (98, [(0, .ref 23), (1, .int (nI 1)), (2, .int (nI (f))), (3, .int (nI 0)), (4, .int ((-1 : Int32))), (5, .int (nI (p)))], [.int (nI (f)), .ref 23])) (h' := (Wd C e (P.1, 0) (Q.1, 0) m1 N1 R (tf e p) Z)) (fun _ _ => rfl) ?_
  refine eR.ifc rfl true ((nc_ne (b := 0) (by omega) (by decide)).trans (decide_eq_true (by omega))) ?_
  refine eR.step 2 (F' := (107, [(0, .ref 23), (1, .int (nI 1)), (2, .int (nI (f))), (3, .int (nI 0)), (4, .int ((-1 : Int32))), (5, .int (nI (p)))], [.int (nI 2), .int (nI 0), .ref 23])) (h' := (Wd C e (P.1, 0) (Q.1, 0) m1 N1 R (tf e p) Z)) (fun _ _ => rfl) ?_
  rw [tf_0 h11 hpn]
  refine eR.call (k' := 136) (as := [.ref 23, .int (nI 0), .int (nI 2)]) (rest := []) (v := none) (h1 := (Wd C e (P.1, 0) (Q.1, 0) m1 N1 R (ri false 0 2) Z)) rfl rfl rfl rfl (eg (Nat.le_of_ble_eq_true rfl) (show 22 ≤ lo by omega) (Nat.le_of_ble_eq_true rfl)) (m_refIf (b := false) (show 21 ≤ lo - 22 by omega) (by decide)) ?_
  rw [show ri false 0 2 = 0 from rfl]
  refine eR.step 2 (F' := (114, [(0, .ref 23), (1, .int (nI 1)), (2, .int (nI (f))), (3, .int (nI 0)), (4, .int ((-1 : Int32))), (5, .int (nI (p)))], [.int (nI 0)])) (h' := (Wd C e (P.1, 0) (Q.1, 0) m1 N1 R 0 Z)) (fun _ _ => rfl) ?_
  refine eR.ifc rfl false ((nc_ne (b := 0) (by omega) (by decide)).trans (decide_eq_false (by omega))) ?_
  refine eR.step 3 (F' := (120, [(0, .ref 23), (1, .int (nI 1)), (2, .int (nI (f))), (3, .int (nI 0)), (4, .int ((-1 : Int32))), (5, .int (nI (p)))], [.int (nI 1), .int (nI (f)), .ref 23])) (h' := (Wd C e (P.1, 0) (Q.1, 0) m1 N1 R 0 Z)) (fun _ _ => rfl) ?_
  refine eR.icmp rfl false ((nc_ne (by omega) (by omega)).trans (decide_eq_false (by omega))) ?_
  refine eR.step 3 (F' := (129, [(0, .ref 23), (1, .int (nI 1)), (2, .int (nI (f))), (3, .int (nI 0)), (4, .int ((-1 : Int32))), (5, .int (nI (p)))], [.int (nI 3), .int (nI 1), .ref 23])) (h' := (Wd C e (P.1, 0) (Q.1, 0) m1 N1 R 0 Z)) (fun _ _ => rfl) ?_
  refine eR.call (k' := 136) (as := [.ref 23, .int (nI 1), .int (nI 3)]) (rest := []) (v := none) (h1 := (Wd C e (P.1, 0) (Q.1, 0) m1 N1 R (ri true 0 3) Z)) rfl rfl rfl rfl (eg (Nat.le_of_ble_eq_true rfl) (show 22 ≤ lo by omega) (Nat.le_of_ble_eq_true rfl)) (m_refIf (b := true) (show 21 ≤ lo - 22 by omega) (by decide)) ?_
  rw [show ri true 0 3 = 3 from rfl]
  refine eR.step 3 (F' := (135, [(0, .ref 23), (1, .int (nI 1)), (2, .int (nI (f))), (3, .int (nI 0)), (4, .int ((-1 : Int32))), (5, .int (nI (p)))], [.int (nI (f)), .ref 23, .ref 23])) (h' := (Wd C e (P.1, 0) (Q.1, 0) m1 N1 R 3 Z)) (fun _ _ => rfl) ?_
  have h6 := V.B.dk.1 (32 + (16 * f))
  refine eR.call (k' := 128) (as := [.ref 23, .int (nI (f))]) (rest := [.ref 23]) (v := some (.int (nI (e (32 + (16 * f)))))) (h1 := (Wd C e (P.1, 0) (Q.1, 0) m1 N1 R 3 Z)) rfl rfl rfl rfl (eg (Nat.le_of_ble_eq_true rfl) (show 21 ≤ lo by omega) (Nat.le_of_ble_eq_true rfl)) (m_kind (show 20 ≤ lo - 21 by omega) hf) ?_
  refine eR.step 1 (F' := (139, [(0, .ref 23), (1, .int (nI 1)), (2, .int (nI (f))), (3, .int (nI 0)), (4, .int ((-1 : Int32))), (5, .int (nI (p)))], [.int (nI 2), .int (nI (e (32 + (16 * f)))), .ref 23])) (h' := (Wd C e (P.1, 0) (Q.1, 0) m1 N1 R 3 Z)) (fun _ _ => rfl) ?_
  by_cases hk : e (32 + (16 * f)) = 2
  · refine eR.icmp rfl false ((nc_ne (by omega) (by omega)).trans (decide_eq_false (by omega))) ?_
    refine eR.step 3 (F' := (146, [(0, .ref 23), (1, .int (nI 1)), (2, .int (nI (f))), (3, .int (nI 0)), (4, .int ((-1 : Int32))), (5, .int (nI (p)))], [.int (nI (f)), .int (nI (p)), .ref 23, .ref 23])) (h' := (Wd C e (P.1, 0) (Q.1, 0) m1 N1 R 3 Z)) (fun _ _ => rfl) ?_
    refine eR.call (k' := 151) (as := [.ref 23, .int (nI (p)), .int (nI (f))]) (rest := [.ref 23]) (v := some (.int (nI (bi (up e f p 16))))) (h1 := (Wd C e (P.1, 0) (Q.1, 0) m1 N1 R 3 Z)) rfl rfl rfl rfl (eg (Nat.le_of_ble_eq_true rfl) (show 23 ≤ lo by omega) (Nat.le_of_ble_eq_true rfl)) (m_lies (show 88 ≤ lo - 23 by omega) V hp hkp hf) ?_
    by_cases hu : up e f p 16 = true
    · refine eR.ifc rfl false (mb_et hu) ?_
      refine eR.step 3 (F' := (158, [(0, .ref 23), (1, .int (nI 1)), (2, .int (nI (f))), (3, .int (nI 0)), (4, .int ((-1 : Int32))), (5, .int (nI (p)))], [.int (nI 4), .int (nI 1), .ref 23])) (h' := (Wd C e (P.1, 0) (Q.1, 0) m1 N1 R 3 Z)) (fun _ _ => rfl) ?_
      refine eR.call (k' := 136) (as := [.ref 23, .int (nI 1), .int (nI 4)]) (rest := []) (v := none) (h1 := (Wd C e (P.1, 0) (Q.1, 0) m1 N1 R (ri true 3 4) Z)) rfl rfl rfl rfl (eg (Nat.le_of_ble_eq_true rfl) (show 22 ≤ lo by omega) (Nat.le_of_ble_eq_true rfl)) (m_refIf (b := true) (show 21 ≤ lo - 22 by omega) (by decide)) ?_
      rw [show ri true 3 4 = 3 from rfl]
      refine eR.step 6 (F' := (170, [(0, .ref 23), (1, .int (nI 1)), (2, .int (nI (f))), (3, .int (nI 0)), (4, .int ((-1 : Int32))), (5, .int (nI (p)))], [.int (nI 1), .int (nI (m1)), .int (nI (p)), .ref 23, .ref 23])) (h' := (Wd C e (P.1, 0) (Q.1, 0) m1 N1 R 3 Z)) (fun _ _ => rfl) ?_
      refine eR.nsub rfl (by omega) ?_
      refine eR.call (k' := 129) (as := [.ref 23, .int (nI (p)), .int (nI (m1 - 1))]) (rest := [.ref 23]) (v := some (.int (fi (fd e p (fun q => N1 (7 * (m1 - 1) + q)) 2 (sn e p - 2))))) (h1 := (Wd C e (P.1, 0) (Q.1, 0) m1 N1 R 3 Z)) rfl rfl rfl rfl (eg (Nat.le_of_ble_eq_true rfl) (show 24 ≤ lo by omega) (Nat.le_of_ble_eq_true rfl)) (m_slotOf (show 88 ≤ lo - 24 by omega) V.B.dk hD (fun k => Nat.lt_trans (hN1 k) (by decide)) (by omega)) ?_
      by_cases hF : fd e p (fun q => N1 (7 * (m1 - 1) + q)) 2 (sn e p - 2) = 0
      · have hB3 := cf_b e 3 64 0
        have hR1 := rN_le e p
        refine eR.ifc rfl false (mc_gi0 hF) ?_
        refine eR.step 2 (F' := (180, [(0, .ref 23), (1, .int (nI 1)), (2, .int (nI (f))), (3, .int (nI 0)), (4, .int ((-1 : Int32))), (5, .int (nI (p)))], [.int (nI (p)), .ref 23, .ref 23])) (h' := (Wd C e (P.1, 0) (Q.1, 0) m1 N1 R 3 Z)) (fun _ _ => rfl) ?_
        refine eR.call (k' := 134) (as := [.ref 23, .int (nI (p))]) (rest := [.ref 23]) (v := some (.int (nI (rN e p)))) (h1 := (Wd C e (P.1, 0) (Q.1, 0) m1 N1 R 3 Z)) rfl rfl rfl rfl (eg (Nat.le_of_ble_eq_true rfl) (show 21 ≤ lo by omega) (Nat.le_of_ble_eq_true rfl)) (m_room (show 110 ≤ lo - 21 by omega) V.B.dk hD) ?_
        refine eR.step 3 (F' := (187, [(0, .ref 23), (1, .int (nI 1)), (2, .int (nI (f))), (3, .int (nI 0)), (4, .int ((-1 : Int32))), (5, .int (nI (p)))], [.int (nI 64), .int (nI 3), .ref 23, .int (nI (rN e p)), .ref 23])) (h' := (Wd C e (P.1, 0) (Q.1, 0) m1 N1 R 3 Z)) (fun _ _ => rfl) ?_
        refine eR.call (k' := 133) (as := [.ref 23, .int (nI 3), .int (nI 64)]) (rest := [.int (nI (rN e p)), .ref 23]) (v := some (.int (nI (cf e 3 0 64)))) (h1 := (Wd C e (P.1, 0) (Q.1, 0) m1 N1 R 3 Z)) rfl rfl rfl rfl (eg (Nat.le_of_ble_eq_true rfl) (show 24 ≤ lo by omega) (Nat.le_of_ble_eq_true rfl)) (m_free (show 22 ≤ lo - 24 by omega) V.B.dk (by decide) (by decide)) ?_
        by_cases h9 : cf e 3 0 64 < rN e p
        · refine eR.icmp rfl false ((nc_le (by omega) (by omega)).trans (decide_eq_false (by omega))) ?_
          refine eR.step 3 (F' := (199, [(0, .ref 23), (1, .int (nI 1)), (2, .int (nI (f))), (3, .int (nI 0)), (4, .int ((-1 : Int32))), (5, .int (nI (p)))], [.int (nI 1), .int (nI 1), .ref 23])) (h' := (Wd C e (P.1, 0) (Q.1, 0) m1 N1 R 3 Z)) (fun _ _ => rfl) ?_
          refine eR.call (k' := 136) (as := [.ref 23, .int (nI 1), .int (nI 1)]) (rest := []) (v := none) (h1 := (Wd C e (P.1, 0) (Q.1, 0) m1 N1 R (ri true 3 1) Z)) rfl rfl rfl rfl (eg (Nat.le_of_ble_eq_true rfl) (show 22 ≤ lo by omega) (Nat.le_of_ble_eq_true rfl)) (m_refIf (b := true) (show 21 ≤ lo - 22 by omega) (by decide)) ?_
          rw [show ri true 3 1 = 3 from rfl]
          refine eR.step 2 (F' := (206, [(0, .ref 23), (1, .int (nI 1)), (2, .int (nI (f))), (3, .int (nI 0)), (4, .int ((-1 : Int32))), (5, .int (nI (p)))], [.int (nI 3)])) (h' := (Wd C e (P.1, 0) (Q.1, 0) m1 N1 R 3 Z)) (fun _ _ => rfl) ?_
          refine eR.ifc rfl false ((nc_eq (b := 0) (by omega) (by decide)).trans (decide_eq_false (by omega))) ?_
          refine eR.step 1 (F' := (210, [(0, .ref 23), (1, .int (nI 1)), (2, .int (nI (f))), (3, .int (nI 0)), (4, .int ((-1 : Int32))), (5, .int (nI (p)))], [.int (nI 0)])) (h' := (Wd C e (P.1, 0) (Q.1, 0) m1 N1 R 3 Z)) (fun _ _ => rfl) ?_
          exact eR.ret rfl rfl rfl
        · refine eR.icmp rfl true ((nc_le (by omega) (by omega)).trans (decide_eq_true (by omega))) ?_
          refine eR.step 2 (F' := (199, [(0, .ref 23), (1, .int (nI 1)), (2, .int (nI (f))), (3, .int (nI 0)), (4, .int ((-1 : Int32))), (5, .int (nI (p)))], [.int (nI 1), .int (nI 0), .ref 23])) (h' := (Wd C e (P.1, 0) (Q.1, 0) m1 N1 R 3 Z)) (fun _ _ => rfl) ?_
          refine eR.call (k' := 136) (as := [.ref 23, .int (nI 0), .int (nI 1)]) (rest := []) (v := none) (h1 := (Wd C e (P.1, 0) (Q.1, 0) m1 N1 R (ri false 3 1) Z)) rfl rfl rfl rfl (eg (Nat.le_of_ble_eq_true rfl) (show 22 ≤ lo by omega) (Nat.le_of_ble_eq_true rfl)) (m_refIf (b := false) (show 21 ≤ lo - 22 by omega) (by decide)) ?_
          rw [show ri false 3 1 = 3 from rfl]
          refine eR.step 2 (F' := (206, [(0, .ref 23), (1, .int (nI 1)), (2, .int (nI (f))), (3, .int (nI 0)), (4, .int ((-1 : Int32))), (5, .int (nI (p)))], [.int (nI 3)])) (h' := (Wd C e (P.1, 0) (Q.1, 0) m1 N1 R 3 Z)) (fun _ _ => rfl) ?_
          refine eR.ifc rfl false ((nc_eq (b := 0) (by omega) (by decide)).trans (decide_eq_false (by omega))) ?_
          refine eR.step 1 (F' := (210, [(0, .ref 23), (1, .int (nI 1)), (2, .int (nI (f))), (3, .int (nI 0)), (4, .int ((-1 : Int32))), (5, .int (nI (p)))], [.int (nI 0)])) (h' := (Wd C e (P.1, 0) (Q.1, 0) m1 N1 R 3 Z)) (fun _ _ => rfl) ?_
          exact eR.ret rfl rfl rfl
      · have h5 := fd_24 hD.2.2.1 hF
        refine eR.ifc rfl true (mc_gin hF (by omega)) ?_
        refine eR.step 3 (F' := (199, [(0, .ref 23), (1, .int (nI 1)), (2, .int (nI (f))), (3, .int (nI 0)), (4, .int ((-1 : Int32))), (5, .int (nI (p)))], [.int (nI 1), .int (nI 1), .ref 23])) (h' := (Wd C e (P.1, 0) (Q.1, 0) m1 N1 R 3 Z)) (fun _ _ => rfl) ?_
        refine eR.call (k' := 136) (as := [.ref 23, .int (nI 1), .int (nI 1)]) (rest := []) (v := none) (h1 := (Wd C e (P.1, 0) (Q.1, 0) m1 N1 R (ri true 3 1) Z)) rfl rfl rfl rfl (eg (Nat.le_of_ble_eq_true rfl) (show 22 ≤ lo by omega) (Nat.le_of_ble_eq_true rfl)) (m_refIf (b := true) (show 21 ≤ lo - 22 by omega) (by decide)) ?_
        rw [show ri true 3 1 = 3 from rfl]
        refine eR.step 2 (F' := (206, [(0, .ref 23), (1, .int (nI 1)), (2, .int (nI (f))), (3, .int (nI 0)), (4, .int ((-1 : Int32))), (5, .int (nI (p)))], [.int (nI 3)])) (h' := (Wd C e (P.1, 0) (Q.1, 0) m1 N1 R 3 Z)) (fun _ _ => rfl) ?_
        refine eR.ifc rfl false ((nc_eq (b := 0) (by omega) (by decide)).trans (decide_eq_false (by omega))) ?_
        refine eR.step 1 (F' := (210, [(0, .ref 23), (1, .int (nI 1)), (2, .int (nI (f))), (3, .int (nI 0)), (4, .int ((-1 : Int32))), (5, .int (nI (p)))], [.int (nI 0)])) (h' := (Wd C e (P.1, 0) (Q.1, 0) m1 N1 R 3 Z)) (fun _ _ => rfl) ?_
        exact eR.ret rfl rfl rfl
    · refine eR.ifc rfl true (mb_ef hu) ?_
      refine eR.step 2 (F' := (158, [(0, .ref 23), (1, .int (nI 1)), (2, .int (nI (f))), (3, .int (nI 0)), (4, .int ((-1 : Int32))), (5, .int (nI (p)))], [.int (nI 4), .int (nI 0), .ref 23])) (h' := (Wd C e (P.1, 0) (Q.1, 0) m1 N1 R 3 Z)) (fun _ _ => rfl) ?_
      refine eR.call (k' := 136) (as := [.ref 23, .int (nI 0), .int (nI 4)]) (rest := []) (v := none) (h1 := (Wd C e (P.1, 0) (Q.1, 0) m1 N1 R (ri false 3 4) Z)) rfl rfl rfl rfl (eg (Nat.le_of_ble_eq_true rfl) (show 22 ≤ lo by omega) (Nat.le_of_ble_eq_true rfl)) (m_refIf (b := false) (show 21 ≤ lo - 22 by omega) (by decide)) ?_
      rw [show ri false 3 4 = 3 from rfl]
      refine eR.step 6 (F' := (170, [(0, .ref 23), (1, .int (nI 1)), (2, .int (nI (f))), (3, .int (nI 0)), (4, .int ((-1 : Int32))), (5, .int (nI (p)))], [.int (nI 1), .int (nI (m1)), .int (nI (p)), .ref 23, .ref 23])) (h' := (Wd C e (P.1, 0) (Q.1, 0) m1 N1 R 3 Z)) (fun _ _ => rfl) ?_
      refine eR.nsub rfl (by omega) ?_
      refine eR.call (k' := 129) (as := [.ref 23, .int (nI (p)), .int (nI (m1 - 1))]) (rest := [.ref 23]) (v := some (.int (fi (fd e p (fun q => N1 (7 * (m1 - 1) + q)) 2 (sn e p - 2))))) (h1 := (Wd C e (P.1, 0) (Q.1, 0) m1 N1 R 3 Z)) rfl rfl rfl rfl (eg (Nat.le_of_ble_eq_true rfl) (show 24 ≤ lo by omega) (Nat.le_of_ble_eq_true rfl)) (m_slotOf (show 88 ≤ lo - 24 by omega) V.B.dk hD (fun k => Nat.lt_trans (hN1 k) (by decide)) (by omega)) ?_
      by_cases hF : fd e p (fun q => N1 (7 * (m1 - 1) + q)) 2 (sn e p - 2) = 0
      · have hB3 := cf_b e 3 64 0
        have hR1 := rN_le e p
        refine eR.ifc rfl false (mc_gi0 hF) ?_
        refine eR.step 2 (F' := (180, [(0, .ref 23), (1, .int (nI 1)), (2, .int (nI (f))), (3, .int (nI 0)), (4, .int ((-1 : Int32))), (5, .int (nI (p)))], [.int (nI (p)), .ref 23, .ref 23])) (h' := (Wd C e (P.1, 0) (Q.1, 0) m1 N1 R 3 Z)) (fun _ _ => rfl) ?_
        refine eR.call (k' := 134) (as := [.ref 23, .int (nI (p))]) (rest := [.ref 23]) (v := some (.int (nI (rN e p)))) (h1 := (Wd C e (P.1, 0) (Q.1, 0) m1 N1 R 3 Z)) rfl rfl rfl rfl (eg (Nat.le_of_ble_eq_true rfl) (show 21 ≤ lo by omega) (Nat.le_of_ble_eq_true rfl)) (m_room (show 110 ≤ lo - 21 by omega) V.B.dk hD) ?_
        refine eR.step 3 (F' := (187, [(0, .ref 23), (1, .int (nI 1)), (2, .int (nI (f))), (3, .int (nI 0)), (4, .int ((-1 : Int32))), (5, .int (nI (p)))], [.int (nI 64), .int (nI 3), .ref 23, .int (nI (rN e p)), .ref 23])) (h' := (Wd C e (P.1, 0) (Q.1, 0) m1 N1 R 3 Z)) (fun _ _ => rfl) ?_
        refine eR.call (k' := 133) (as := [.ref 23, .int (nI 3), .int (nI 64)]) (rest := [.int (nI (rN e p)), .ref 23]) (v := some (.int (nI (cf e 3 0 64)))) (h1 := (Wd C e (P.1, 0) (Q.1, 0) m1 N1 R 3 Z)) rfl rfl rfl rfl (eg (Nat.le_of_ble_eq_true rfl) (show 24 ≤ lo by omega) (Nat.le_of_ble_eq_true rfl)) (m_free (show 22 ≤ lo - 24 by omega) V.B.dk (by decide) (by decide)) ?_
        by_cases h9 : cf e 3 0 64 < rN e p
        · refine eR.icmp rfl false ((nc_le (by omega) (by omega)).trans (decide_eq_false (by omega))) ?_
          refine eR.step 3 (F' := (199, [(0, .ref 23), (1, .int (nI 1)), (2, .int (nI (f))), (3, .int (nI 0)), (4, .int ((-1 : Int32))), (5, .int (nI (p)))], [.int (nI 1), .int (nI 1), .ref 23])) (h' := (Wd C e (P.1, 0) (Q.1, 0) m1 N1 R 3 Z)) (fun _ _ => rfl) ?_
          refine eR.call (k' := 136) (as := [.ref 23, .int (nI 1), .int (nI 1)]) (rest := []) (v := none) (h1 := (Wd C e (P.1, 0) (Q.1, 0) m1 N1 R (ri true 3 1) Z)) rfl rfl rfl rfl (eg (Nat.le_of_ble_eq_true rfl) (show 22 ≤ lo by omega) (Nat.le_of_ble_eq_true rfl)) (m_refIf (b := true) (show 21 ≤ lo - 22 by omega) (by decide)) ?_
          rw [show ri true 3 1 = 3 from rfl]
          refine eR.step 2 (F' := (206, [(0, .ref 23), (1, .int (nI 1)), (2, .int (nI (f))), (3, .int (nI 0)), (4, .int ((-1 : Int32))), (5, .int (nI (p)))], [.int (nI 3)])) (h' := (Wd C e (P.1, 0) (Q.1, 0) m1 N1 R 3 Z)) (fun _ _ => rfl) ?_
          refine eR.ifc rfl false ((nc_eq (b := 0) (by omega) (by decide)).trans (decide_eq_false (by omega))) ?_
          refine eR.step 1 (F' := (210, [(0, .ref 23), (1, .int (nI 1)), (2, .int (nI (f))), (3, .int (nI 0)), (4, .int ((-1 : Int32))), (5, .int (nI (p)))], [.int (nI 0)])) (h' := (Wd C e (P.1, 0) (Q.1, 0) m1 N1 R 3 Z)) (fun _ _ => rfl) ?_
          exact eR.ret rfl rfl rfl
        · refine eR.icmp rfl true ((nc_le (by omega) (by omega)).trans (decide_eq_true (by omega))) ?_
          refine eR.step 2 (F' := (199, [(0, .ref 23), (1, .int (nI 1)), (2, .int (nI (f))), (3, .int (nI 0)), (4, .int ((-1 : Int32))), (5, .int (nI (p)))], [.int (nI 1), .int (nI 0), .ref 23])) (h' := (Wd C e (P.1, 0) (Q.1, 0) m1 N1 R 3 Z)) (fun _ _ => rfl) ?_
          refine eR.call (k' := 136) (as := [.ref 23, .int (nI 0), .int (nI 1)]) (rest := []) (v := none) (h1 := (Wd C e (P.1, 0) (Q.1, 0) m1 N1 R (ri false 3 1) Z)) rfl rfl rfl rfl (eg (Nat.le_of_ble_eq_true rfl) (show 22 ≤ lo by omega) (Nat.le_of_ble_eq_true rfl)) (m_refIf (b := false) (show 21 ≤ lo - 22 by omega) (by decide)) ?_
          rw [show ri false 3 1 = 3 from rfl]
          refine eR.step 2 (F' := (206, [(0, .ref 23), (1, .int (nI 1)), (2, .int (nI (f))), (3, .int (nI 0)), (4, .int ((-1 : Int32))), (5, .int (nI (p)))], [.int (nI 3)])) (h' := (Wd C e (P.1, 0) (Q.1, 0) m1 N1 R 3 Z)) (fun _ _ => rfl) ?_
          refine eR.ifc rfl false ((nc_eq (b := 0) (by omega) (by decide)).trans (decide_eq_false (by omega))) ?_
          refine eR.step 1 (F' := (210, [(0, .ref 23), (1, .int (nI 1)), (2, .int (nI (f))), (3, .int (nI 0)), (4, .int ((-1 : Int32))), (5, .int (nI (p)))], [.int (nI 0)])) (h' := (Wd C e (P.1, 0) (Q.1, 0) m1 N1 R 3 Z)) (fun _ _ => rfl) ?_
          exact eR.ret rfl rfl rfl
      · have h5 := fd_24 hD.2.2.1 hF
        refine eR.ifc rfl true (mc_gin hF (by omega)) ?_
        refine eR.step 3 (F' := (199, [(0, .ref 23), (1, .int (nI 1)), (2, .int (nI (f))), (3, .int (nI 0)), (4, .int ((-1 : Int32))), (5, .int (nI (p)))], [.int (nI 1), .int (nI 1), .ref 23])) (h' := (Wd C e (P.1, 0) (Q.1, 0) m1 N1 R 3 Z)) (fun _ _ => rfl) ?_
        refine eR.call (k' := 136) (as := [.ref 23, .int (nI 1), .int (nI 1)]) (rest := []) (v := none) (h1 := (Wd C e (P.1, 0) (Q.1, 0) m1 N1 R (ri true 3 1) Z)) rfl rfl rfl rfl (eg (Nat.le_of_ble_eq_true rfl) (show 22 ≤ lo by omega) (Nat.le_of_ble_eq_true rfl)) (m_refIf (b := true) (show 21 ≤ lo - 22 by omega) (by decide)) ?_
        rw [show ri true 3 1 = 3 from rfl]
        refine eR.step 2 (F' := (206, [(0, .ref 23), (1, .int (nI 1)), (2, .int (nI (f))), (3, .int (nI 0)), (4, .int ((-1 : Int32))), (5, .int (nI (p)))], [.int (nI 3)])) (h' := (Wd C e (P.1, 0) (Q.1, 0) m1 N1 R 3 Z)) (fun _ _ => rfl) ?_
        refine eR.ifc rfl false ((nc_eq (b := 0) (by omega) (by decide)).trans (decide_eq_false (by omega))) ?_
        refine eR.step 1 (F' := (210, [(0, .ref 23), (1, .int (nI 1)), (2, .int (nI (f))), (3, .int (nI 0)), (4, .int ((-1 : Int32))), (5, .int (nI (p)))], [.int (nI 0)])) (h' := (Wd C e (P.1, 0) (Q.1, 0) m1 N1 R 3 Z)) (fun _ _ => rfl) ?_
        exact eR.ret rfl rfl rfl
  · refine eR.icmp rfl true ((nc_ne (by omega) (by omega)).trans (decide_eq_true (by omega))) ?_
    refine eR.step 2 (F' := (158, [(0, .ref 23), (1, .int (nI 1)), (2, .int (nI (f))), (3, .int (nI 0)), (4, .int ((-1 : Int32))), (5, .int (nI (p)))], [.int (nI 4), .int (nI 0), .ref 23])) (h' := (Wd C e (P.1, 0) (Q.1, 0) m1 N1 R 3 Z)) (fun _ _ => rfl) ?_
    refine eR.call (k' := 136) (as := [.ref 23, .int (nI 0), .int (nI 4)]) (rest := []) (v := none) (h1 := (Wd C e (P.1, 0) (Q.1, 0) m1 N1 R (ri false 3 4) Z)) rfl rfl rfl rfl (eg (Nat.le_of_ble_eq_true rfl) (show 22 ≤ lo by omega) (Nat.le_of_ble_eq_true rfl)) (m_refIf (b := false) (show 21 ≤ lo - 22 by omega) (by decide)) ?_
    rw [show ri false 3 4 = 3 from rfl]
    refine eR.step 6 (F' := (170, [(0, .ref 23), (1, .int (nI 1)), (2, .int (nI (f))), (3, .int (nI 0)), (4, .int ((-1 : Int32))), (5, .int (nI (p)))], [.int (nI 1), .int (nI (m1)), .int (nI (p)), .ref 23, .ref 23])) (h' := (Wd C e (P.1, 0) (Q.1, 0) m1 N1 R 3 Z)) (fun _ _ => rfl) ?_
    refine eR.nsub rfl (by omega) ?_
    refine eR.call (k' := 129) (as := [.ref 23, .int (nI (p)), .int (nI (m1 - 1))]) (rest := [.ref 23]) (v := some (.int (fi (fd e p (fun q => N1 (7 * (m1 - 1) + q)) 2 (sn e p - 2))))) (h1 := (Wd C e (P.1, 0) (Q.1, 0) m1 N1 R 3 Z)) rfl rfl rfl rfl (eg (Nat.le_of_ble_eq_true rfl) (show 24 ≤ lo by omega) (Nat.le_of_ble_eq_true rfl)) (m_slotOf (show 88 ≤ lo - 24 by omega) V.B.dk hD (fun k => Nat.lt_trans (hN1 k) (by decide)) (by omega)) ?_
    by_cases hF : fd e p (fun q => N1 (7 * (m1 - 1) + q)) 2 (sn e p - 2) = 0
    · have hB3 := cf_b e 3 64 0
      have hR1 := rN_le e p
      refine eR.ifc rfl false (mc_gi0 hF) ?_
      refine eR.step 2 (F' := (180, [(0, .ref 23), (1, .int (nI 1)), (2, .int (nI (f))), (3, .int (nI 0)), (4, .int ((-1 : Int32))), (5, .int (nI (p)))], [.int (nI (p)), .ref 23, .ref 23])) (h' := (Wd C e (P.1, 0) (Q.1, 0) m1 N1 R 3 Z)) (fun _ _ => rfl) ?_
      refine eR.call (k' := 134) (as := [.ref 23, .int (nI (p))]) (rest := [.ref 23]) (v := some (.int (nI (rN e p)))) (h1 := (Wd C e (P.1, 0) (Q.1, 0) m1 N1 R 3 Z)) rfl rfl rfl rfl (eg (Nat.le_of_ble_eq_true rfl) (show 21 ≤ lo by omega) (Nat.le_of_ble_eq_true rfl)) (m_room (show 110 ≤ lo - 21 by omega) V.B.dk hD) ?_
      refine eR.step 3 (F' := (187, [(0, .ref 23), (1, .int (nI 1)), (2, .int (nI (f))), (3, .int (nI 0)), (4, .int ((-1 : Int32))), (5, .int (nI (p)))], [.int (nI 64), .int (nI 3), .ref 23, .int (nI (rN e p)), .ref 23])) (h' := (Wd C e (P.1, 0) (Q.1, 0) m1 N1 R 3 Z)) (fun _ _ => rfl) ?_
      refine eR.call (k' := 133) (as := [.ref 23, .int (nI 3), .int (nI 64)]) (rest := [.int (nI (rN e p)), .ref 23]) (v := some (.int (nI (cf e 3 0 64)))) (h1 := (Wd C e (P.1, 0) (Q.1, 0) m1 N1 R 3 Z)) rfl rfl rfl rfl (eg (Nat.le_of_ble_eq_true rfl) (show 24 ≤ lo by omega) (Nat.le_of_ble_eq_true rfl)) (m_free (show 22 ≤ lo - 24 by omega) V.B.dk (by decide) (by decide)) ?_
      by_cases h9 : cf e 3 0 64 < rN e p
      · refine eR.icmp rfl false ((nc_le (by omega) (by omega)).trans (decide_eq_false (by omega))) ?_
        refine eR.step 3 (F' := (199, [(0, .ref 23), (1, .int (nI 1)), (2, .int (nI (f))), (3, .int (nI 0)), (4, .int ((-1 : Int32))), (5, .int (nI (p)))], [.int (nI 1), .int (nI 1), .ref 23])) (h' := (Wd C e (P.1, 0) (Q.1, 0) m1 N1 R 3 Z)) (fun _ _ => rfl) ?_
        refine eR.call (k' := 136) (as := [.ref 23, .int (nI 1), .int (nI 1)]) (rest := []) (v := none) (h1 := (Wd C e (P.1, 0) (Q.1, 0) m1 N1 R (ri true 3 1) Z)) rfl rfl rfl rfl (eg (Nat.le_of_ble_eq_true rfl) (show 22 ≤ lo by omega) (Nat.le_of_ble_eq_true rfl)) (m_refIf (b := true) (show 21 ≤ lo - 22 by omega) (by decide)) ?_
        rw [show ri true 3 1 = 3 from rfl]
        refine eR.step 2 (F' := (206, [(0, .ref 23), (1, .int (nI 1)), (2, .int (nI (f))), (3, .int (nI 0)), (4, .int ((-1 : Int32))), (5, .int (nI (p)))], [.int (nI 3)])) (h' := (Wd C e (P.1, 0) (Q.1, 0) m1 N1 R 3 Z)) (fun _ _ => rfl) ?_
        refine eR.ifc rfl false ((nc_eq (b := 0) (by omega) (by decide)).trans (decide_eq_false (by omega))) ?_
        refine eR.step 1 (F' := (210, [(0, .ref 23), (1, .int (nI 1)), (2, .int (nI (f))), (3, .int (nI 0)), (4, .int ((-1 : Int32))), (5, .int (nI (p)))], [.int (nI 0)])) (h' := (Wd C e (P.1, 0) (Q.1, 0) m1 N1 R 3 Z)) (fun _ _ => rfl) ?_
        exact eR.ret rfl rfl rfl
      · refine eR.icmp rfl true ((nc_le (by omega) (by omega)).trans (decide_eq_true (by omega))) ?_
        refine eR.step 2 (F' := (199, [(0, .ref 23), (1, .int (nI 1)), (2, .int (nI (f))), (3, .int (nI 0)), (4, .int ((-1 : Int32))), (5, .int (nI (p)))], [.int (nI 1), .int (nI 0), .ref 23])) (h' := (Wd C e (P.1, 0) (Q.1, 0) m1 N1 R 3 Z)) (fun _ _ => rfl) ?_
        refine eR.call (k' := 136) (as := [.ref 23, .int (nI 0), .int (nI 1)]) (rest := []) (v := none) (h1 := (Wd C e (P.1, 0) (Q.1, 0) m1 N1 R (ri false 3 1) Z)) rfl rfl rfl rfl (eg (Nat.le_of_ble_eq_true rfl) (show 22 ≤ lo by omega) (Nat.le_of_ble_eq_true rfl)) (m_refIf (b := false) (show 21 ≤ lo - 22 by omega) (by decide)) ?_
        rw [show ri false 3 1 = 3 from rfl]
        refine eR.step 2 (F' := (206, [(0, .ref 23), (1, .int (nI 1)), (2, .int (nI (f))), (3, .int (nI 0)), (4, .int ((-1 : Int32))), (5, .int (nI (p)))], [.int (nI 3)])) (h' := (Wd C e (P.1, 0) (Q.1, 0) m1 N1 R 3 Z)) (fun _ _ => rfl) ?_
        refine eR.ifc rfl false ((nc_eq (b := 0) (by omega) (by decide)).trans (decide_eq_false (by omega))) ?_
        refine eR.step 1 (F' := (210, [(0, .ref 23), (1, .int (nI 1)), (2, .int (nI (f))), (3, .int (nI 0)), (4, .int ((-1 : Int32))), (5, .int (nI (p)))], [.int (nI 0)])) (h' := (Wd C e (P.1, 0) (Q.1, 0) m1 N1 R 3 Z)) (fun _ _ => rfl) ?_
        exact eR.ret rfl rfl rfl
    · have h5 := fd_24 hD.2.2.1 hF
      refine eR.ifc rfl true (mc_gin hF (by omega)) ?_
      refine eR.step 3 (F' := (199, [(0, .ref 23), (1, .int (nI 1)), (2, .int (nI (f))), (3, .int (nI 0)), (4, .int ((-1 : Int32))), (5, .int (nI (p)))], [.int (nI 1), .int (nI 1), .ref 23])) (h' := (Wd C e (P.1, 0) (Q.1, 0) m1 N1 R 3 Z)) (fun _ _ => rfl) ?_
      refine eR.call (k' := 136) (as := [.ref 23, .int (nI 1), .int (nI 1)]) (rest := []) (v := none) (h1 := (Wd C e (P.1, 0) (Q.1, 0) m1 N1 R (ri true 3 1) Z)) rfl rfl rfl rfl (eg (Nat.le_of_ble_eq_true rfl) (show 22 ≤ lo by omega) (Nat.le_of_ble_eq_true rfl)) (m_refIf (b := true) (show 21 ≤ lo - 22 by omega) (by decide)) ?_
      rw [show ri true 3 1 = 3 from rfl]
      refine eR.step 2 (F' := (206, [(0, .ref 23), (1, .int (nI 1)), (2, .int (nI (f))), (3, .int (nI 0)), (4, .int ((-1 : Int32))), (5, .int (nI (p)))], [.int (nI 3)])) (h' := (Wd C e (P.1, 0) (Q.1, 0) m1 N1 R 3 Z)) (fun _ _ => rfl) ?_
      refine eR.ifc rfl false ((nc_eq (b := 0) (by omega) (by decide)).trans (decide_eq_false (by omega))) ?_
      refine eR.step 1 (F' := (210, [(0, .ref 23), (1, .int (nI 1)), (2, .int (nI (f))), (3, .int (nI 0)), (4, .int ((-1 : Int32))), (5, .int (nI (p)))], [.int (nI 0)])) (h' := (Wd C e (P.1, 0) (Q.1, 0) m1 N1 R 3 Z)) (fun _ _ => rfl) ?_
      exact eR.ret rfl rfl rfl
theorem m_rename4 {cm sm fr lo : Nat} {C : gC} {e : Nat → Nat} {P Q : gT} {m : Nat} {N : Nat → Nat} {R : gS} {t : Nat} {Z : mj_H} (hlo : 159 ≤ lo) (V : qV e) (hN : ∀ k, N k < 256) (ht : ∀ k, P.1 k < 65536) (hl : P.2 ≤ 40) (ht2 : ∀ k, Q.1 k < 65536) (hl2 : Q.2 ≤ 40) {f p p0 m1 m0 : Nat} {N1 N0 : Nat → Nat} (hq0 : (pP Q.1 Q.2 N).2.1 = m0) (hqN : (pP Q.1 Q.2 N).2.2 = N0) (hp0 : ab e P N0 = p) (hm0 : (pP P.1 P.2 N0).2.1 = m1) (hN0 : (pP P.1 P.2 N0).2.2 = N1) (hN3 : ∀ k, N0 k < 256) (h11 : e 11 = 1) (h1 : (pP Q.1 Q.2 N).1 = true) (hld : ld e N0 m0 = f) (hfn : ¬ f = 0) (hf : f < 16) (hm : 0 < m0) (hld0 : ld e N0 (m0 - 1) = p0) (hp0n : ¬ p0 = 0) (hp016 : p0 < 16) (hD0 : gD e p0) {j : Nat} (hj : fd e p0 (fun q => N0 (7 * (m0 - 1) + q)) 2 (sn e p0 - 2) = j) (hj2 : 2 ≤ j) (hj24 : j < 24) (hpn : ¬ p = 0) (hm1 : 1 ≤ m1) (hm2 : m1 ≤ 20) (hN1 : ∀ k, N1 k < 256) (hp : p < 16) (hkp : e (32 + (16 * p)) = 2) (hD : gD e p) (hf1 : ¬ f = 1) (hk : e (32 + (16 * f)) = 2) (hu : up e f p 16 = true) : eE mm_P cm sm (fr + 8) lo 150 [.ref 23] (Wd C e P Q m N R t Z) (.inl (some (.int (nI 0))), (Wd C e (P.1, 0) (Q.1, 0) m1 N1 R 4 Z)) := by
  refine eE.of ?_
  have htf := tf_le e p
  have h11b := V.B.dk.1 11
  refine eR.step 2 (F' := (2, [(0, .ref 23)], [.int (nI 1), .ref 23])) (h' := (Wd C e P Q m N R t Z)) (fun _ _ => rfl) ?_
  refine eR.call (k' := 124) (as := [.ref 23, .int (nI 1)]) (rest := []) (v := some (.int (nI (bi (pP Q.1 Q.2 N).1)))) (h1 := (Wd C e P Q (pP Q.1 Q.2 N).2.1 (pP Q.1 Q.2 N).2.2 R t Z)) rfl rfl rfl rfl (eg (Nat.le_of_ble_eq_true rfl) (show 25 ≤ lo by omega) (Nat.le_of_ble_eq_true rfl)) (m_parse1 (show 22 ≤ lo - 25 by omega) ht2 hl2) ?_
  rw [hq0, hqN]
  have hml := pP_len hl2 h1
  rw [hq0] at hml
  refine eR.ifc rfl false (mb_et h1) ?_
  refine eR.step 1 (F' := (9, [(0, .ref 23)], [.ref 23])) (h' := (Wd C e P Q m0 N0 R t Z)) (fun _ _ => rfl) ?_
  refine eR.call (k' := 126) (as := [.ref 23]) (rest := []) (v := some (.int (nI (bi (decide (e 11 = 1)))))) (h1 := (Wd C e P Q m0 N0 R t Z)) rfl rfl rfl rfl (eg (Nat.le_of_ble_eq_true rfl) (show 20 ≤ lo by omega) (Nat.le_of_ble_eq_true rfl)) (m_clean V.B.dk) ?_
  refine eR.ifc rfl false (mb_et (decide_eq_true h11)) ?_
  refine eR.step 4 (F' := (22, [(0, .ref 23), (1, .int (nI 1))], [.int (nI 1)])) (h' := (Wd C e P Q m0 N0 R t Z)) (fun _ _ => rfl) ?_
  refine eR.ifc rfl false rfl ?_
  refine eR.step 3 (F' := (30, [(0, .ref 23), (1, .int (nI 1))], [.int (nI (m0)), .ref 23])) (h' := (Wd C e P Q m0 N0 R t Z)) (fun _ _ => rfl) ?_
  refine eR.call (k' := 127) (as := [.ref 23, .int (nI (m0))]) (rest := []) (v := some (.int (nI (ld e N0 m0)))) (h1 := (Wd C e P Q m0 N0 R t Z)) rfl rfl rfl rfl (eg (Nat.le_of_ble_eq_true rfl) (show 24 ≤ lo by omega) (Nat.le_of_ble_eq_true rfl)) (m_lead (show 112 ≤ lo - 24 by omega) V hN3 hml) ?_
  rw [hld]
  refine eR.step 3 (F' := (39, [(0, .ref 23), (1, .int (nI 1)), (2, .int (nI (f)))], [.int (nI (f))])) (h' := (Wd C e P Q m0 N0 R t Z)) (fun _ _ => rfl) ?_
  refine eR.ifc rfl false ((nc_eq (b := 0) (by omega) (by decide)).trans (decide_eq_false (by omega))) ?_
  refine eR.step 2 (F' := (46, [(0, .ref 23), (1, .int (nI 1)), (2, .int (nI (f)))], [.int (nI (m0))])) (h' := (Wd C e P Q m0 N0 R t Z)) (fun _ _ => rfl) ?_
  refine eR.ifc rfl false ((nc_le (b := 0) (by omega) (by decide)).trans (decide_eq_false (by omega))) ?_
  refine eR.step 4 (F' := (55, [(0, .ref 23), (1, .int (nI 1)), (2, .int (nI (f)))], [.int (nI 1), .int (nI (m0)), .ref 23])) (h' := (Wd C e P Q m0 N0 R t Z)) (fun _ _ => rfl) ?_
  refine eR.nsub rfl (by omega) ?_
  refine eR.call (k' := 127) (as := [.ref 23, .int (nI (m0 - 1))]) (rest := []) (v := some (.int (nI (ld e N0 (m0 - 1))))) (h1 := (Wd C e P Q m0 N0 R t Z)) rfl rfl rfl rfl (eg (Nat.le_of_ble_eq_true rfl) (show 24 ≤ lo by omega) (Nat.le_of_ble_eq_true rfl)) (m_lead (show 112 ≤ lo - 24 by omega) V hN3 (by omega)) ?_
  rw [hld0]
  refine eR.step 3 (F' := (65, [(0, .ref 23), (1, .int (nI 1)), (2, .int (nI (f))), (3, .int (nI (p0)))], [.int (nI (p0))])) (h' := (Wd C e P Q m0 N0 R t Z)) (fun _ _ => rfl) ?_
  refine eR.ifc rfl false ((nc_eq (b := 0) (by omega) (by decide)).trans (decide_eq_false (by omega))) ?_
  refine eR.step 5 (F' := (75, [(0, .ref 23), (1, .int (nI 1)), (2, .int (nI (f))), (3, .int (nI (p0)))], [.int (nI 1), .int (nI (m0)), .int (nI (p0)), .ref 23])) (h' := (Wd C e P Q m0 N0 R t Z)) (fun _ _ => rfl) ?_
  refine eR.nsub rfl (by omega) ?_
  refine eR.call (k' := 129) (as := [.ref 23, .int (nI (p0)), .int (nI (m0 - 1))]) (rest := []) (v := some (.int (fi (fd e p0 (fun q => N0 (7 * (m0 - 1) + q)) 2 (sn e p0 - 2))))) (h1 := (Wd C e P Q m0 N0 R t Z)) rfl rfl rfl rfl (eg (Nat.le_of_ble_eq_true rfl) (show 24 ≤ lo by omega) (Nat.le_of_ble_eq_true rfl)) (m_slotOf (show 88 ≤ lo - 24 by omega) V.B.dk hD0 (fun k => Nat.lt_trans (hN3 k) (by decide)) (by omega)) ?_
  rw [hj, fi_n (by omega)]
  refine eR.step 4 (F' := (87, [(0, .ref 23), (1, .int (nI 1)), (2, .int (nI (f))), (3, .int (nI (p0))), (4, .int (nI (j)))], [.int (nI 0), .ref 23])) (h' := (Wd C e P Q m0 N0 R t Z)) (fun _ _ => rfl) ?_
  refine eR.sim rfl (F := (90, [(0, .ref 23), (1, .int (nI 1)), (2, .int (nI (f))), (3, .int (nI (p0))), (4, .int (nI (j)))], [])) (h' := (Wd C e P (Q.1, 0) m0 N0 R t Z)) (by rfl) ?_
  refine eR.step 1 (F' := (91, [(0, .ref 23), (1, .int (nI 1)), (2, .int (nI (f))), (3, .int (nI (p0))), (4, .int (nI (j)))], [.ref 23])) (h' := (Wd C e P (Q.1, 0) m0 N0 R t Z)) (fun _ _ => rfl) ?_
  refine eR.call (k' := 123) (as := [.ref 23]) (rest := []) (v := some (.int (nI (ab e P N0)))) (h1 := (Wd C e (P.1, 0) (Q.1, 0) (pP P.1 P.2 N0).2.1 (pP P.1 P.2 N0).2.2 R (tf e (ab e P N0)) Z)) rfl rfl rfl rfl (eg (Nat.le_of_ble_eq_true rfl) (show 23 ≤ lo by omega) (Nat.le_of_ble_eq_true rfl)) (m_above (show 136 ≤ lo - 23 by omega) V hN3 ht hl) ?_
  rw [hp0, hm0, hN0]
  refine eR.step 3 (F' := (98, [(0, .ref 23), (1, .int (nI 1)), (2, .int (nI (f))), (3, .int (nI (p0))), (4, .int (nI (j))), (5, .int (nI (p)))], [.int (nI (f)), .ref 23])) (h' := (Wd C e (P.1, 0) (Q.1, 0) m1 N1 R (tf e p) Z)) (fun _ _ => rfl) ?_
  refine eR.ifc rfl true ((nc_ne (b := 0) (by omega) (by decide)).trans (decide_eq_true (by omega))) ?_
  refine eR.step 2 (F' := (107, [(0, .ref 23), (1, .int (nI 1)), (2, .int (nI (f))), (3, .int (nI (p0))), (4, .int (nI (j))), (5, .int (nI (p)))], [.int (nI 2), .int (nI 0), .ref 23])) (h' := (Wd C e (P.1, 0) (Q.1, 0) m1 N1 R (tf e p) Z)) (fun _ _ => rfl) ?_
  rw [tf_0 h11 hpn]
  refine eR.call (k' := 136) (as := [.ref 23, .int (nI 0), .int (nI 2)]) (rest := []) (v := none) (h1 := (Wd C e (P.1, 0) (Q.1, 0) m1 N1 R (ri false 0 2) Z)) rfl rfl rfl rfl (eg (Nat.le_of_ble_eq_true rfl) (show 22 ≤ lo by omega) (Nat.le_of_ble_eq_true rfl)) (m_refIf (b := false) (show 21 ≤ lo - 22 by omega) (by decide)) ?_
  rw [show ri false 0 2 = 0 from rfl]
  refine eR.step 2 (F' := (114, [(0, .ref 23), (1, .int (nI 1)), (2, .int (nI (f))), (3, .int (nI (p0))), (4, .int (nI (j))), (5, .int (nI (p)))], [.int (nI 0)])) (h' := (Wd C e (P.1, 0) (Q.1, 0) m1 N1 R 0 Z)) (fun _ _ => rfl) ?_
  refine eR.ifc rfl false ((nc_ne (b := 0) (by omega) (by decide)).trans (decide_eq_false (by omega))) ?_
  refine eR.step 3 (F' := (120, [(0, .ref 23), (1, .int (nI 1)), (2, .int (nI (f))), (3, .int (nI (p0))), (4, .int (nI (j))), (5, .int (nI (p)))], [.int (nI 1), .int (nI (f)), .ref 23])) (h' := (Wd C e (P.1, 0) (Q.1, 0) m1 N1 R 0 Z)) (fun _ _ => rfl) ?_
  refine eR.icmp rfl true ((nc_ne (by omega) (by omega)).trans (decide_eq_true (by omega))) ?_
  refine eR.step 2 (F' := (129, [(0, .ref 23), (1, .int (nI 1)), (2, .int (nI (f))), (3, .int (nI (p0))), (4, .int (nI (j))), (5, .int (nI (p)))], [.int (nI 3), .int (nI 0), .ref 23])) (h' := (Wd C e (P.1, 0) (Q.1, 0) m1 N1 R 0 Z)) (fun _ _ => rfl) ?_
  refine eR.call (k' := 136) (as := [.ref 23, .int (nI 0), .int (nI 3)]) (rest := []) (v := none) (h1 := (Wd C e (P.1, 0) (Q.1, 0) m1 N1 R (ri false 0 3) Z)) rfl rfl rfl rfl (eg (Nat.le_of_ble_eq_true rfl) (show 22 ≤ lo by omega) (Nat.le_of_ble_eq_true rfl)) (m_refIf (b := false) (show 21 ≤ lo - 22 by omega) (by decide)) ?_
  rw [show ri false 0 3 = 0 from rfl]
  refine eR.step 3 (F' := (135, [(0, .ref 23), (1, .int (nI 1)), (2, .int (nI (f))), (3, .int (nI (p0))), (4, .int (nI (j))), (5, .int (nI (p)))], [.int (nI (f)), .ref 23, .ref 23])) (h' := (Wd C e (P.1, 0) (Q.1, 0) m1 N1 R 0 Z)) (fun _ _ => rfl) ?_
  have h6 := V.B.dk.1 (32 + (16 * f))
  refine eR.call (k' := 128) (as := [.ref 23, .int (nI (f))]) (rest := [.ref 23]) (v := some (.int (nI (e (32 + (16 * f)))))) (h1 := (Wd C e (P.1, 0) (Q.1, 0) m1 N1 R 0 Z)) rfl rfl rfl rfl (eg (Nat.le_of_ble_eq_true rfl) (show 21 ≤ lo by omega) (Nat.le_of_ble_eq_true rfl)) (m_kind (show 20 ≤ lo - 21 by omega) hf) ?_
  refine eR.step 1 (F' := (139, [(0, .ref 23), (1, .int (nI 1)), (2, .int (nI (f))), (3, .int (nI (p0))), (4, .int (nI (j))), (5, .int (nI (p)))], [.int (nI 2), .int (nI (e (32 + (16 * f)))), .ref 23])) (h' := (Wd C e (P.1, 0) (Q.1, 0) m1 N1 R 0 Z)) (fun _ _ => rfl) ?_
  refine eR.icmp rfl false ((nc_ne (by omega) (by omega)).trans (decide_eq_false (by omega))) ?_
  refine eR.step 3 (F' := (146, [(0, .ref 23), (1, .int (nI 1)), (2, .int (nI (f))), (3, .int (nI (p0))), (4, .int (nI (j))), (5, .int (nI (p)))], [.int (nI (f)), .int (nI (p)), .ref 23, .ref 23])) (h' := (Wd C e (P.1, 0) (Q.1, 0) m1 N1 R 0 Z)) (fun _ _ => rfl) ?_
  refine eR.call (k' := 151) (as := [.ref 23, .int (nI (p)), .int (nI (f))]) (rest := [.ref 23]) (v := some (.int (nI (bi (up e f p 16))))) (h1 := (Wd C e (P.1, 0) (Q.1, 0) m1 N1 R 0 Z)) rfl rfl rfl rfl (eg (Nat.le_of_ble_eq_true rfl) (show 23 ≤ lo by omega) (Nat.le_of_ble_eq_true rfl)) (m_lies (show 88 ≤ lo - 23 by omega) V hp hkp hf) ?_
  refine eR.ifc rfl false (mb_et hu) ?_
  refine eR.step 3 (F' := (158, [(0, .ref 23), (1, .int (nI 1)), (2, .int (nI (f))), (3, .int (nI (p0))), (4, .int (nI (j))), (5, .int (nI (p)))], [.int (nI 4), .int (nI 1), .ref 23])) (h' := (Wd C e (P.1, 0) (Q.1, 0) m1 N1 R 0 Z)) (fun _ _ => rfl) ?_
  refine eR.call (k' := 136) (as := [.ref 23, .int (nI 1), .int (nI 4)]) (rest := []) (v := none) (h1 := (Wd C e (P.1, 0) (Q.1, 0) m1 N1 R (ri true 0 4) Z)) rfl rfl rfl rfl (eg (Nat.le_of_ble_eq_true rfl) (show 22 ≤ lo by omega) (Nat.le_of_ble_eq_true rfl)) (m_refIf (b := true) (show 21 ≤ lo - 22 by omega) (by decide)) ?_
  rw [show ri true 0 4 = 4 from rfl]
  refine eR.step 6 (F' := (170, [(0, .ref 23), (1, .int (nI 1)), (2, .int (nI (f))), (3, .int (nI (p0))), (4, .int (nI (j))), (5, .int (nI (p)))], [.int (nI 1), .int (nI (m1)), .int (nI (p)), .ref 23, .ref 23])) (h' := (Wd C e (P.1, 0) (Q.1, 0) m1 N1 R 4 Z)) (fun _ _ => rfl) ?_
  refine eR.nsub rfl (by omega) ?_
  refine eR.call (k' := 129) (as := [.ref 23, .int (nI (p)), .int (nI (m1 - 1))]) (rest := [.ref 23]) (v := some (.int (fi (fd e p (fun q => N1 (7 * (m1 - 1) + q)) 2 (sn e p - 2))))) (h1 := (Wd C e (P.1, 0) (Q.1, 0) m1 N1 R 4 Z)) rfl rfl rfl rfl (eg (Nat.le_of_ble_eq_true rfl) (show 24 ≤ lo by omega) (Nat.le_of_ble_eq_true rfl)) (m_slotOf (show 88 ≤ lo - 24 by omega) V.B.dk hD (fun k => Nat.lt_trans (hN1 k) (by decide)) (by omega)) ?_
  by_cases hF : fd e p (fun q => N1 (7 * (m1 - 1) + q)) 2 (sn e p - 2) = 0
  · have hB3 := cf_b e 3 64 0
    have hR1 := rN_le e p
    refine eR.ifc rfl false (mc_gi0 hF) ?_
    refine eR.step 2 (F' := (180, [(0, .ref 23), (1, .int (nI 1)), (2, .int (nI (f))), (3, .int (nI (p0))), (4, .int (nI (j))), (5, .int (nI (p)))], [.int (nI (p)), .ref 23, .ref 23])) (h' := (Wd C e (P.1, 0) (Q.1, 0) m1 N1 R 4 Z)) (fun _ _ => rfl) ?_
    refine eR.call (k' := 134) (as := [.ref 23, .int (nI (p))]) (rest := [.ref 23]) (v := some (.int (nI (rN e p)))) (h1 := (Wd C e (P.1, 0) (Q.1, 0) m1 N1 R 4 Z)) rfl rfl rfl rfl (eg (Nat.le_of_ble_eq_true rfl) (show 21 ≤ lo by omega) (Nat.le_of_ble_eq_true rfl)) (m_room (show 110 ≤ lo - 21 by omega) V.B.dk hD) ?_
    refine eR.step 3 (F' := (187, [(0, .ref 23), (1, .int (nI 1)), (2, .int (nI (f))), (3, .int (nI (p0))), (4, .int (nI (j))), (5, .int (nI (p)))], [.int (nI 64), .int (nI 3), .ref 23, .int (nI (rN e p)), .ref 23])) (h' := (Wd C e (P.1, 0) (Q.1, 0) m1 N1 R 4 Z)) (fun _ _ => rfl) ?_
    refine eR.call (k' := 133) (as := [.ref 23, .int (nI 3), .int (nI 64)]) (rest := [.int (nI (rN e p)), .ref 23]) (v := some (.int (nI (cf e 3 0 64)))) (h1 := (Wd C e (P.1, 0) (Q.1, 0) m1 N1 R 4 Z)) rfl rfl rfl rfl (eg (Nat.le_of_ble_eq_true rfl) (show 24 ≤ lo by omega) (Nat.le_of_ble_eq_true rfl)) (m_free (show 22 ≤ lo - 24 by omega) V.B.dk (by decide) (by decide)) ?_
    by_cases h9 : cf e 3 0 64 < rN e p
    · refine eR.icmp rfl false ((nc_le (by omega) (by omega)).trans (decide_eq_false (by omega))) ?_
      refine eR.step 3 (F' := (199, [(0, .ref 23), (1, .int (nI 1)), (2, .int (nI (f))), (3, .int (nI (p0))), (4, .int (nI (j))), (5, .int (nI (p)))], [.int (nI 1), .int (nI 1), .ref 23])) (h' := (Wd C e (P.1, 0) (Q.1, 0) m1 N1 R 4 Z)) (fun _ _ => rfl) ?_
      refine eR.call (k' := 136) (as := [.ref 23, .int (nI 1), .int (nI 1)]) (rest := []) (v := none) (h1 := (Wd C e (P.1, 0) (Q.1, 0) m1 N1 R (ri true 4 1) Z)) rfl rfl rfl rfl (eg (Nat.le_of_ble_eq_true rfl) (show 22 ≤ lo by omega) (Nat.le_of_ble_eq_true rfl)) (m_refIf (b := true) (show 21 ≤ lo - 22 by omega) (by decide)) ?_
      rw [show ri true 4 1 = 4 from rfl]
      refine eR.step 2 (F' := (206, [(0, .ref 23), (1, .int (nI 1)), (2, .int (nI (f))), (3, .int (nI (p0))), (4, .int (nI (j))), (5, .int (nI (p)))], [.int (nI 4)])) (h' := (Wd C e (P.1, 0) (Q.1, 0) m1 N1 R 4 Z)) (fun _ _ => rfl) ?_
      refine eR.ifc rfl false ((nc_eq (b := 0) (by omega) (by decide)).trans (decide_eq_false (by omega))) ?_
      refine eR.step 1 (F' := (210, [(0, .ref 23), (1, .int (nI 1)), (2, .int (nI (f))), (3, .int (nI (p0))), (4, .int (nI (j))), (5, .int (nI (p)))], [.int (nI 0)])) (h' := (Wd C e (P.1, 0) (Q.1, 0) m1 N1 R 4 Z)) (fun _ _ => rfl) ?_
      exact eR.ret rfl rfl rfl
    · refine eR.icmp rfl true ((nc_le (by omega) (by omega)).trans (decide_eq_true (by omega))) ?_
      refine eR.step 2 (F' := (199, [(0, .ref 23), (1, .int (nI 1)), (2, .int (nI (f))), (3, .int (nI (p0))), (4, .int (nI (j))), (5, .int (nI (p)))], [.int (nI 1), .int (nI 0), .ref 23])) (h' := (Wd C e (P.1, 0) (Q.1, 0) m1 N1 R 4 Z)) (fun _ _ => rfl) ?_
      refine eR.call (k' := 136) (as := [.ref 23, .int (nI 0), .int (nI 1)]) (rest := []) (v := none) (h1 := (Wd C e (P.1, 0) (Q.1, 0) m1 N1 R (ri false 4 1) Z)) rfl rfl rfl rfl (eg (Nat.le_of_ble_eq_true rfl) (show 22 ≤ lo by omega) (Nat.le_of_ble_eq_true rfl)) (m_refIf (b := false) (show 21 ≤ lo - 22 by omega) (by decide)) ?_
      rw [show ri false 4 1 = 4 from rfl]
      refine eR.step 2 (F' := (206, [(0, .ref 23), (1, .int (nI 1)), (2, .int (nI (f))), (3, .int (nI (p0))), (4, .int (nI (j))), (5, .int (nI (p)))], [.int (nI 4)])) (h' := (Wd C e (P.1, 0) (Q.1, 0) m1 N1 R 4 Z)) (fun _ _ => rfl) ?_
      refine eR.ifc rfl false ((nc_eq (b := 0) (by omega) (by decide)).trans (decide_eq_false (by omega))) ?_
      refine eR.step 1 (F' := (210, [(0, .ref 23), (1, .int (nI 1)), (2, .int (nI (f))), (3, .int (nI (p0))), (4, .int (nI (j))), (5, .int (nI (p)))], [.int (nI 0)])) (h' := (Wd C e (P.1, 0) (Q.1, 0) m1 N1 R 4 Z)) (fun _ _ => rfl) ?_
      exact eR.ret rfl rfl rfl
  · have h5 := fd_24 hD.2.2.1 hF
    refine eR.ifc rfl true (mc_gin hF (by omega)) ?_
    refine eR.step 3 (F' := (199, [(0, .ref 23), (1, .int (nI 1)), (2, .int (nI (f))), (3, .int (nI (p0))), (4, .int (nI (j))), (5, .int (nI (p)))], [.int (nI 1), .int (nI 1), .ref 23])) (h' := (Wd C e (P.1, 0) (Q.1, 0) m1 N1 R 4 Z)) (fun _ _ => rfl) ?_
    refine eR.call (k' := 136) (as := [.ref 23, .int (nI 1), .int (nI 1)]) (rest := []) (v := none) (h1 := (Wd C e (P.1, 0) (Q.1, 0) m1 N1 R (ri true 4 1) Z)) rfl rfl rfl rfl (eg (Nat.le_of_ble_eq_true rfl) (show 22 ≤ lo by omega) (Nat.le_of_ble_eq_true rfl)) (m_refIf (b := true) (show 21 ≤ lo - 22 by omega) (by decide)) ?_
    rw [show ri true 4 1 = 4 from rfl]
    refine eR.step 2 (F' := (206, [(0, .ref 23), (1, .int (nI 1)), (2, .int (nI (f))), (3, .int (nI (p0))), (4, .int (nI (j))), (5, .int (nI (p)))], [.int (nI 4)])) (h' := (Wd C e (P.1, 0) (Q.1, 0) m1 N1 R 4 Z)) (fun _ _ => rfl) ?_
    refine eR.ifc rfl false ((nc_eq (b := 0) (by omega) (by decide)).trans (decide_eq_false (by omega))) ?_
    refine eR.step 1 (F' := (210, [(0, .ref 23), (1, .int (nI 1)), (2, .int (nI (f))), (3, .int (nI (p0))), (4, .int (nI (j))), (5, .int (nI (p)))], [.int (nI 0)])) (h' := (Wd C e (P.1, 0) (Q.1, 0) m1 N1 R 4 Z)) (fun _ _ => rfl) ?_
    exact eR.ret rfl rfl rfl
theorem m_renameB1D {cm sm fr lo : Nat} {C : gC} {e : Nat → Nat} {P Q : gT} {m : Nat} {N : Nat → Nat} {R : gS} {t : Nat} {Z : mj_H} (hlo : 159 ≤ lo) (V : qV e) (hN : ∀ k, N k < 256) (ht : ∀ k, P.1 k < 65536) (hl : P.2 ≤ 40) (ht2 : ∀ k, Q.1 k < 65536) (hl2 : Q.2 ≤ 40) {f p p0 m1 m0 : Nat} {N1 N0 : Nat → Nat} (hq0 : (pP Q.1 Q.2 N).2.1 = m0) (hqN : (pP Q.1 Q.2 N).2.2 = N0) (hp0 : ab e P N0 = p) (hm0 : (pP P.1 P.2 N0).2.1 = m1) (hN0 : (pP P.1 P.2 N0).2.2 = N1) (hN3 : ∀ k, N0 k < 256) (h11 : e 11 = 1) (h1 : (pP Q.1 Q.2 N).1 = true) (hld : ld e N0 m0 = f) (hfn : ¬ f = 0) (hf : f < 16) (hm : 0 < m0) (hld0 : ld e N0 (m0 - 1) = p0) (hp0n : ¬ p0 = 0) (hp016 : p0 < 16) (hD0 : gD e p0) {j : Nat} (hj : fd e p0 (fun q => N0 (7 * (m0 - 1) + q)) 2 (sn e p0 - 2) = j) (hj2 : 2 ≤ j) (hj24 : j < 24) (hpn : ¬ p = 0) (hm1 : 1 ≤ m1) (hm2 : m1 ≤ 20) (hN1 : ∀ k, N1 k < 256) (hp : p < 16) (hkp : e (32 + (16 * p)) = 2) (hD : gD e p) (hf1 : ¬ f = 1) (hk : e (32 + (16 * f)) = 2) (hu : ¬ up e f p 16 = true) (hF : ¬ fd e p (fun q => N1 (7 * (m1 - 1) + q)) 2 (sn e p - 2) = 0) : eE mm_P cm sm (fr + 8) lo 150 [.ref 23] (Wd C e P Q m N R t Z) (.inl (some (.int (nI 0))), (Wd C e (P.1, 0) (Q.1, 0) m1 N1 R 1 Z)) := by
  refine eE.of ?_
  have htf := tf_le e p
  have h11b := V.B.dk.1 11
  refine eR.step 2 (F' := (2, [(0, .ref 23)], [.int (nI 1), .ref 23])) (h' := (Wd C e P Q m N R t Z)) (fun _ _ => rfl) ?_
  refine eR.call (k' := 124) (as := [.ref 23, .int (nI 1)]) (rest := []) (v := some (.int (nI (bi (pP Q.1 Q.2 N).1)))) (h1 := (Wd C e P Q (pP Q.1 Q.2 N).2.1 (pP Q.1 Q.2 N).2.2 R t Z)) rfl rfl rfl rfl (eg (Nat.le_of_ble_eq_true rfl) (show 25 ≤ lo by omega) (Nat.le_of_ble_eq_true rfl)) (m_parse1 (show 22 ≤ lo - 25 by omega) ht2 hl2) ?_
  rw [hq0, hqN]
  have hml := pP_len hl2 h1
  rw [hq0] at hml
  refine eR.ifc rfl false (mb_et h1) ?_
  refine eR.step 1 (F' := (9, [(0, .ref 23)], [.ref 23])) (h' := (Wd C e P Q m0 N0 R t Z)) (fun _ _ => rfl) ?_
  refine eR.call (k' := 126) (as := [.ref 23]) (rest := []) (v := some (.int (nI (bi (decide (e 11 = 1)))))) (h1 := (Wd C e P Q m0 N0 R t Z)) rfl rfl rfl rfl (eg (Nat.le_of_ble_eq_true rfl) (show 20 ≤ lo by omega) (Nat.le_of_ble_eq_true rfl)) (m_clean V.B.dk) ?_
  refine eR.ifc rfl false (mb_et (decide_eq_true h11)) ?_
  refine eR.step 4 (F' := (22, [(0, .ref 23), (1, .int (nI 1))], [.int (nI 1)])) (h' := (Wd C e P Q m0 N0 R t Z)) (fun _ _ => rfl) ?_
  refine eR.ifc rfl false rfl ?_
  refine eR.step 3 (F' := (30, [(0, .ref 23), (1, .int (nI 1))], [.int (nI (m0)), .ref 23])) (h' := (Wd C e P Q m0 N0 R t Z)) (fun _ _ => rfl) ?_
  refine eR.call (k' := 127) (as := [.ref 23, .int (nI (m0))]) (rest := []) (v := some (.int (nI (ld e N0 m0)))) (h1 := (Wd C e P Q m0 N0 R t Z)) rfl rfl rfl rfl (eg (Nat.le_of_ble_eq_true rfl) (show 24 ≤ lo by omega) (Nat.le_of_ble_eq_true rfl)) (m_lead (show 112 ≤ lo - 24 by omega) V hN3 hml) ?_
  rw [hld]
  refine eR.step 3 (F' := (39, [(0, .ref 23), (1, .int (nI 1)), (2, .int (nI (f)))], [.int (nI (f))])) (h' := (Wd C e P Q m0 N0 R t Z)) (fun _ _ => rfl) ?_
  refine eR.ifc rfl false ((nc_eq (b := 0) (by omega) (by decide)).trans (decide_eq_false (by omega))) ?_
  refine eR.step 2 (F' := (46, [(0, .ref 23), (1, .int (nI 1)), (2, .int (nI (f)))], [.int (nI (m0))])) (h' := (Wd C e P Q m0 N0 R t Z)) (fun _ _ => rfl) ?_
  refine eR.ifc rfl false ((nc_le (b := 0) (by omega) (by decide)).trans (decide_eq_false (by omega))) ?_
  refine eR.step 4 (F' := (55, [(0, .ref 23), (1, .int (nI 1)), (2, .int (nI (f)))], [.int (nI 1), .int (nI (m0)), .ref 23])) (h' := (Wd C e P Q m0 N0 R t Z)) (fun _ _ => rfl) ?_
  refine eR.nsub rfl (by omega) ?_
  refine eR.call (k' := 127) (as := [.ref 23, .int (nI (m0 - 1))]) (rest := []) (v := some (.int (nI (ld e N0 (m0 - 1))))) (h1 := (Wd C e P Q m0 N0 R t Z)) rfl rfl rfl rfl (eg (Nat.le_of_ble_eq_true rfl) (show 24 ≤ lo by omega) (Nat.le_of_ble_eq_true rfl)) (m_lead (show 112 ≤ lo - 24 by omega) V hN3 (by omega)) ?_
  rw [hld0]
  refine eR.step 3 (F' := (65, [(0, .ref 23), (1, .int (nI 1)), (2, .int (nI (f))), (3, .int (nI (p0)))], [.int (nI (p0))])) (h' := (Wd C e P Q m0 N0 R t Z)) (fun _ _ => rfl) ?_
  refine eR.ifc rfl false ((nc_eq (b := 0) (by omega) (by decide)).trans (decide_eq_false (by omega))) ?_
  refine eR.step 5 (F' := (75, [(0, .ref 23), (1, .int (nI 1)), (2, .int (nI (f))), (3, .int (nI (p0)))], [.int (nI 1), .int (nI (m0)), .int (nI (p0)), .ref 23])) (h' := (Wd C e P Q m0 N0 R t Z)) (fun _ _ => rfl) ?_
  refine eR.nsub rfl (by omega) ?_
  refine eR.call (k' := 129) (as := [.ref 23, .int (nI (p0)), .int (nI (m0 - 1))]) (rest := []) (v := some (.int (fi (fd e p0 (fun q => N0 (7 * (m0 - 1) + q)) 2 (sn e p0 - 2))))) (h1 := (Wd C e P Q m0 N0 R t Z)) rfl rfl rfl rfl (eg (Nat.le_of_ble_eq_true rfl) (show 24 ≤ lo by omega) (Nat.le_of_ble_eq_true rfl)) (m_slotOf (show 88 ≤ lo - 24 by omega) V.B.dk hD0 (fun k => Nat.lt_trans (hN3 k) (by decide)) (by omega)) ?_
  rw [hj, fi_n (by omega)]
  refine eR.step 4 (F' := (87, [(0, .ref 23), (1, .int (nI 1)), (2, .int (nI (f))), (3, .int (nI (p0))), (4, .int (nI (j)))], [.int (nI 0), .ref 23])) (h' := (Wd C e P Q m0 N0 R t Z)) (fun _ _ => rfl) ?_
  refine eR.sim rfl (F := (90, [(0, .ref 23), (1, .int (nI 1)), (2, .int (nI (f))), (3, .int (nI (p0))), (4, .int (nI (j)))], [])) (h' := (Wd C e P (Q.1, 0) m0 N0 R t Z)) (by rfl) ?_
  refine eR.step 1 (F' := (91, [(0, .ref 23), (1, .int (nI 1)), (2, .int (nI (f))), (3, .int (nI (p0))), (4, .int (nI (j)))], [.ref 23])) (h' := (Wd C e P (Q.1, 0) m0 N0 R t Z)) (fun _ _ => rfl) ?_
  refine eR.call (k' := 123) (as := [.ref 23]) (rest := []) (v := some (.int (nI (ab e P N0)))) (h1 := (Wd C e (P.1, 0) (Q.1, 0) (pP P.1 P.2 N0).2.1 (pP P.1 P.2 N0).2.2 R (tf e (ab e P N0)) Z)) rfl rfl rfl rfl (eg (Nat.le_of_ble_eq_true rfl) (show 23 ≤ lo by omega) (Nat.le_of_ble_eq_true rfl)) (m_above (show 136 ≤ lo - 23 by omega) V hN3 ht hl) ?_
  rw [hp0, hm0, hN0]
  refine eR.step 3 (F' := (98, [(0, .ref 23), (1, .int (nI 1)), (2, .int (nI (f))), (3, .int (nI (p0))), (4, .int (nI (j))), (5, .int (nI (p)))], [.int (nI (f)), .ref 23])) (h' := (Wd C e (P.1, 0) (Q.1, 0) m1 N1 R (tf e p) Z)) (fun _ _ => rfl) ?_
  refine eR.ifc rfl true ((nc_ne (b := 0) (by omega) (by decide)).trans (decide_eq_true (by omega))) ?_
  refine eR.step 2 (F' := (107, [(0, .ref 23), (1, .int (nI 1)), (2, .int (nI (f))), (3, .int (nI (p0))), (4, .int (nI (j))), (5, .int (nI (p)))], [.int (nI 2), .int (nI 0), .ref 23])) (h' := (Wd C e (P.1, 0) (Q.1, 0) m1 N1 R (tf e p) Z)) (fun _ _ => rfl) ?_
  rw [tf_0 h11 hpn]
  refine eR.call (k' := 136) (as := [.ref 23, .int (nI 0), .int (nI 2)]) (rest := []) (v := none) (h1 := (Wd C e (P.1, 0) (Q.1, 0) m1 N1 R (ri false 0 2) Z)) rfl rfl rfl rfl (eg (Nat.le_of_ble_eq_true rfl) (show 22 ≤ lo by omega) (Nat.le_of_ble_eq_true rfl)) (m_refIf (b := false) (show 21 ≤ lo - 22 by omega) (by decide)) ?_
  rw [show ri false 0 2 = 0 from rfl]
  refine eR.step 2 (F' := (114, [(0, .ref 23), (1, .int (nI 1)), (2, .int (nI (f))), (3, .int (nI (p0))), (4, .int (nI (j))), (5, .int (nI (p)))], [.int (nI 0)])) (h' := (Wd C e (P.1, 0) (Q.1, 0) m1 N1 R 0 Z)) (fun _ _ => rfl) ?_
  refine eR.ifc rfl false ((nc_ne (b := 0) (by omega) (by decide)).trans (decide_eq_false (by omega))) ?_
  refine eR.step 3 (F' := (120, [(0, .ref 23), (1, .int (nI 1)), (2, .int (nI (f))), (3, .int (nI (p0))), (4, .int (nI (j))), (5, .int (nI (p)))], [.int (nI 1), .int (nI (f)), .ref 23])) (h' := (Wd C e (P.1, 0) (Q.1, 0) m1 N1 R 0 Z)) (fun _ _ => rfl) ?_
  refine eR.icmp rfl true ((nc_ne (by omega) (by omega)).trans (decide_eq_true (by omega))) ?_
  refine eR.step 2 (F' := (129, [(0, .ref 23), (1, .int (nI 1)), (2, .int (nI (f))), (3, .int (nI (p0))), (4, .int (nI (j))), (5, .int (nI (p)))], [.int (nI 3), .int (nI 0), .ref 23])) (h' := (Wd C e (P.1, 0) (Q.1, 0) m1 N1 R 0 Z)) (fun _ _ => rfl) ?_
  refine eR.call (k' := 136) (as := [.ref 23, .int (nI 0), .int (nI 3)]) (rest := []) (v := none) (h1 := (Wd C e (P.1, 0) (Q.1, 0) m1 N1 R (ri false 0 3) Z)) rfl rfl rfl rfl (eg (Nat.le_of_ble_eq_true rfl) (show 22 ≤ lo by omega) (Nat.le_of_ble_eq_true rfl)) (m_refIf (b := false) (show 21 ≤ lo - 22 by omega) (by decide)) ?_
  rw [show ri false 0 3 = 0 from rfl]
  refine eR.step 3 (F' := (135, [(0, .ref 23), (1, .int (nI 1)), (2, .int (nI (f))), (3, .int (nI (p0))), (4, .int (nI (j))), (5, .int (nI (p)))], [.int (nI (f)), .ref 23, .ref 23])) (h' := (Wd C e (P.1, 0) (Q.1, 0) m1 N1 R 0 Z)) (fun _ _ => rfl) ?_
  have h6 := V.B.dk.1 (32 + (16 * f))
  refine eR.call (k' := 128) (as := [.ref 23, .int (nI (f))]) (rest := [.ref 23]) (v := some (.int (nI (e (32 + (16 * f)))))) (h1 := (Wd C e (P.1, 0) (Q.1, 0) m1 N1 R 0 Z)) rfl rfl rfl rfl (eg (Nat.le_of_ble_eq_true rfl) (show 21 ≤ lo by omega) (Nat.le_of_ble_eq_true rfl)) (m_kind (show 20 ≤ lo - 21 by omega) hf) ?_
  refine eR.step 1 (F' := (139, [(0, .ref 23), (1, .int (nI 1)), (2, .int (nI (f))), (3, .int (nI (p0))), (4, .int (nI (j))), (5, .int (nI (p)))], [.int (nI 2), .int (nI (e (32 + (16 * f)))), .ref 23])) (h' := (Wd C e (P.1, 0) (Q.1, 0) m1 N1 R 0 Z)) (fun _ _ => rfl) ?_
  refine eR.icmp rfl false ((nc_ne (by omega) (by omega)).trans (decide_eq_false (by omega))) ?_
  refine eR.step 3 (F' := (146, [(0, .ref 23), (1, .int (nI 1)), (2, .int (nI (f))), (3, .int (nI (p0))), (4, .int (nI (j))), (5, .int (nI (p)))], [.int (nI (f)), .int (nI (p)), .ref 23, .ref 23])) (h' := (Wd C e (P.1, 0) (Q.1, 0) m1 N1 R 0 Z)) (fun _ _ => rfl) ?_
  refine eR.call (k' := 151) (as := [.ref 23, .int (nI (p)), .int (nI (f))]) (rest := [.ref 23]) (v := some (.int (nI (bi (up e f p 16))))) (h1 := (Wd C e (P.1, 0) (Q.1, 0) m1 N1 R 0 Z)) rfl rfl rfl rfl (eg (Nat.le_of_ble_eq_true rfl) (show 23 ≤ lo by omega) (Nat.le_of_ble_eq_true rfl)) (m_lies (show 88 ≤ lo - 23 by omega) V hp hkp hf) ?_
  refine eR.ifc rfl true (mb_ef hu) ?_
  refine eR.step 2 (F' := (158, [(0, .ref 23), (1, .int (nI 1)), (2, .int (nI (f))), (3, .int (nI (p0))), (4, .int (nI (j))), (5, .int (nI (p)))], [.int (nI 4), .int (nI 0), .ref 23])) (h' := (Wd C e (P.1, 0) (Q.1, 0) m1 N1 R 0 Z)) (fun _ _ => rfl) ?_
  refine eR.call (k' := 136) (as := [.ref 23, .int (nI 0), .int (nI 4)]) (rest := []) (v := none) (h1 := (Wd C e (P.1, 0) (Q.1, 0) m1 N1 R (ri false 0 4) Z)) rfl rfl rfl rfl (eg (Nat.le_of_ble_eq_true rfl) (show 22 ≤ lo by omega) (Nat.le_of_ble_eq_true rfl)) (m_refIf (b := false) (show 21 ≤ lo - 22 by omega) (by decide)) ?_
  rw [show ri false 0 4 = 0 from rfl]
  refine eR.step 6 (F' := (170, [(0, .ref 23), (1, .int (nI 1)), (2, .int (nI (f))), (3, .int (nI (p0))), (4, .int (nI (j))), (5, .int (nI (p)))], [.int (nI 1), .int (nI (m1)), .int (nI (p)), .ref 23, .ref 23])) (h' := (Wd C e (P.1, 0) (Q.1, 0) m1 N1 R 0 Z)) (fun _ _ => rfl) ?_
  refine eR.nsub rfl (by omega) ?_
  refine eR.call (k' := 129) (as := [.ref 23, .int (nI (p)), .int (nI (m1 - 1))]) (rest := [.ref 23]) (v := some (.int (fi (fd e p (fun q => N1 (7 * (m1 - 1) + q)) 2 (sn e p - 2))))) (h1 := (Wd C e (P.1, 0) (Q.1, 0) m1 N1 R 0 Z)) rfl rfl rfl rfl (eg (Nat.le_of_ble_eq_true rfl) (show 24 ≤ lo by omega) (Nat.le_of_ble_eq_true rfl)) (m_slotOf (show 88 ≤ lo - 24 by omega) V.B.dk hD (fun k => Nat.lt_trans (hN1 k) (by decide)) (by omega)) ?_
  have h5 := fd_24 hD.2.2.1 hF
  refine eR.ifc rfl true (mc_gin hF (by omega)) ?_
  refine eR.step 3 (F' := (199, [(0, .ref 23), (1, .int (nI 1)), (2, .int (nI (f))), (3, .int (nI (p0))), (4, .int (nI (j))), (5, .int (nI (p)))], [.int (nI 1), .int (nI 1), .ref 23])) (h' := (Wd C e (P.1, 0) (Q.1, 0) m1 N1 R 0 Z)) (fun _ _ => rfl) ?_
  refine eR.call (k' := 136) (as := [.ref 23, .int (nI 1), .int (nI 1)]) (rest := []) (v := none) (h1 := (Wd C e (P.1, 0) (Q.1, 0) m1 N1 R (ri true 0 1) Z)) rfl rfl rfl rfl (eg (Nat.le_of_ble_eq_true rfl) (show 22 ≤ lo by omega) (Nat.le_of_ble_eq_true rfl)) (m_refIf (b := true) (show 21 ≤ lo - 22 by omega) (by decide)) ?_
  rw [show ri true 0 1 = 1 from rfl]
  refine eR.step 2 (F' := (206, [(0, .ref 23), (1, .int (nI 1)), (2, .int (nI (f))), (3, .int (nI (p0))), (4, .int (nI (j))), (5, .int (nI (p)))], [.int (nI 1)])) (h' := (Wd C e (P.1, 0) (Q.1, 0) m1 N1 R 1 Z)) (fun _ _ => rfl) ?_
  refine eR.ifc rfl false ((nc_eq (b := 0) (by omega) (by decide)).trans (decide_eq_false (by omega))) ?_
  refine eR.step 1 (F' := (210, [(0, .ref 23), (1, .int (nI 1)), (2, .int (nI (f))), (3, .int (nI (p0))), (4, .int (nI (j))), (5, .int (nI (p)))], [.int (nI 0)])) (h' := (Wd C e (P.1, 0) (Q.1, 0) m1 N1 R 1 Z)) (fun _ _ => rfl) ?_
  exact eR.ret rfl rfl rfl
theorem m_renameB2D {cm sm fr lo : Nat} {C : gC} {e : Nat → Nat} {P Q : gT} {m : Nat} {N : Nat → Nat} {R : gS} {t : Nat} {Z : mj_H} (hlo : 159 ≤ lo) (V : qV e) (hN : ∀ k, N k < 256) (ht : ∀ k, P.1 k < 65536) (hl : P.2 ≤ 40) (ht2 : ∀ k, Q.1 k < 65536) (hl2 : Q.2 ≤ 40) {f p p0 m1 m0 : Nat} {N1 N0 : Nat → Nat} (hq0 : (pP Q.1 Q.2 N).2.1 = m0) (hqN : (pP Q.1 Q.2 N).2.2 = N0) (hp0 : ab e P N0 = p) (hm0 : (pP P.1 P.2 N0).2.1 = m1) (hN0 : (pP P.1 P.2 N0).2.2 = N1) (hN3 : ∀ k, N0 k < 256) (h11 : e 11 = 1) (h1 : (pP Q.1 Q.2 N).1 = true) (hld : ld e N0 m0 = f) (hfn : ¬ f = 0) (hf : f < 16) (hm : 0 < m0) (hld0 : ld e N0 (m0 - 1) = p0) (hp0n : ¬ p0 = 0) (hp016 : p0 < 16) (hD0 : gD e p0) {j : Nat} (hj : fd e p0 (fun q => N0 (7 * (m0 - 1) + q)) 2 (sn e p0 - 2) = j) (hj2 : 2 ≤ j) (hj24 : j < 24) (hpn : ¬ p = 0) (hm1 : 1 ≤ m1) (hm2 : m1 ≤ 20) (hN1 : ∀ k, N1 k < 256) (hp : p < 16) (hkp : e (32 + (16 * p)) = 2) (hD : gD e p) (hf1 : ¬ f = 1) (hk : e (32 + (16 * f)) = 2) (hu : ¬ up e f p 16 = true) (hF : fd e p (fun q => N1 (7 * (m1 - 1) + q)) 2 (sn e p - 2) = 0) (hr : cf e 3 0 64 < rN e p) : eE mm_P cm sm (fr + 8) lo 150 [.ref 23] (Wd C e P Q m N R t Z) (.inl (some (.int (nI 0))), (Wd C e (P.1, 0) (Q.1, 0) m1 N1 R 1 Z)) := by
  refine eE.of ?_
  have htf := tf_le e p
  have h11b := V.B.dk.1 11
  refine eR.step 2 (F' := (2, [(0, .ref 23)], [.int (nI 1), .ref 23])) (h' := (Wd C e P Q m N R t Z)) (fun _ _ => rfl) ?_
  refine eR.call (k' := 124) (as := [.ref 23, .int (nI 1)]) (rest := []) (v := some (.int (nI (bi (pP Q.1 Q.2 N).1)))) (h1 := (Wd C e P Q (pP Q.1 Q.2 N).2.1 (pP Q.1 Q.2 N).2.2 R t Z)) rfl rfl rfl rfl (eg (Nat.le_of_ble_eq_true rfl) (show 25 ≤ lo by omega) (Nat.le_of_ble_eq_true rfl)) (m_parse1 (show 22 ≤ lo - 25 by omega) ht2 hl2) ?_
  rw [hq0, hqN]
  have hml := pP_len hl2 h1
  rw [hq0] at hml
  refine eR.ifc rfl false (mb_et h1) ?_
  refine eR.step 1 (F' := (9, [(0, .ref 23)], [.ref 23])) (h' := (Wd C e P Q m0 N0 R t Z)) (fun _ _ => rfl) ?_
  refine eR.call (k' := 126) (as := [.ref 23]) (rest := []) (v := some (.int (nI (bi (decide (e 11 = 1)))))) (h1 := (Wd C e P Q m0 N0 R t Z)) rfl rfl rfl rfl (eg (Nat.le_of_ble_eq_true rfl) (show 20 ≤ lo by omega) (Nat.le_of_ble_eq_true rfl)) (m_clean V.B.dk) ?_
  refine eR.ifc rfl false (mb_et (decide_eq_true h11)) ?_
  refine eR.step 4 (F' := (22, [(0, .ref 23), (1, .int (nI 1))], [.int (nI 1)])) (h' := (Wd C e P Q m0 N0 R t Z)) (fun _ _ => rfl) ?_
  refine eR.ifc rfl false rfl ?_
  refine eR.step 3 (F' := (30, [(0, .ref 23), (1, .int (nI 1))], [.int (nI (m0)), .ref 23])) (h' := (Wd C e P Q m0 N0 R t Z)) (fun _ _ => rfl) ?_
  refine eR.call (k' := 127) (as := [.ref 23, .int (nI (m0))]) (rest := []) (v := some (.int (nI (ld e N0 m0)))) (h1 := (Wd C e P Q m0 N0 R t Z)) rfl rfl rfl rfl (eg (Nat.le_of_ble_eq_true rfl) (show 24 ≤ lo by omega) (Nat.le_of_ble_eq_true rfl)) (m_lead (show 112 ≤ lo - 24 by omega) V hN3 hml) ?_
  rw [hld]
  refine eR.step 3 (F' := (39, [(0, .ref 23), (1, .int (nI 1)), (2, .int (nI (f)))], [.int (nI (f))])) (h' := (Wd C e P Q m0 N0 R t Z)) (fun _ _ => rfl) ?_
  refine eR.ifc rfl false ((nc_eq (b := 0) (by omega) (by decide)).trans (decide_eq_false (by omega))) ?_
  refine eR.step 2 (F' := (46, [(0, .ref 23), (1, .int (nI 1)), (2, .int (nI (f)))], [.int (nI (m0))])) (h' := (Wd C e P Q m0 N0 R t Z)) (fun _ _ => rfl) ?_
  refine eR.ifc rfl false ((nc_le (b := 0) (by omega) (by decide)).trans (decide_eq_false (by omega))) ?_
  refine eR.step 4 (F' := (55, [(0, .ref 23), (1, .int (nI 1)), (2, .int (nI (f)))], [.int (nI 1), .int (nI (m0)), .ref 23])) (h' := (Wd C e P Q m0 N0 R t Z)) (fun _ _ => rfl) ?_
  refine eR.nsub rfl (by omega) ?_
  refine eR.call (k' := 127) (as := [.ref 23, .int (nI (m0 - 1))]) (rest := []) (v := some (.int (nI (ld e N0 (m0 - 1))))) (h1 := (Wd C e P Q m0 N0 R t Z)) rfl rfl rfl rfl (eg (Nat.le_of_ble_eq_true rfl) (show 24 ≤ lo by omega) (Nat.le_of_ble_eq_true rfl)) (m_lead (show 112 ≤ lo - 24 by omega) V hN3 (by omega)) ?_
  rw [hld0]
  refine eR.step 3 (F' := (65, [(0, .ref 23), (1, .int (nI 1)), (2, .int (nI (f))), (3, .int (nI (p0)))], [.int (nI (p0))])) (h' := (Wd C e P Q m0 N0 R t Z)) (fun _ _ => rfl) ?_
  refine eR.ifc rfl false ((nc_eq (b := 0) (by omega) (by decide)).trans (decide_eq_false (by omega))) ?_
  refine eR.step 5 (F' := (75, [(0, .ref 23), (1, .int (nI 1)), (2, .int (nI (f))), (3, .int (nI (p0)))], [.int (nI 1), .int (nI (m0)), .int (nI (p0)), .ref 23])) (h' := (Wd C e P Q m0 N0 R t Z)) (fun _ _ => rfl) ?_
  refine eR.nsub rfl (by omega) ?_
  refine eR.call (k' := 129) (as := [.ref 23, .int (nI (p0)), .int (nI (m0 - 1))]) (rest := []) (v := some (.int (fi (fd e p0 (fun q => N0 (7 * (m0 - 1) + q)) 2 (sn e p0 - 2))))) (h1 := (Wd C e P Q m0 N0 R t Z)) rfl rfl rfl rfl (eg (Nat.le_of_ble_eq_true rfl) (show 24 ≤ lo by omega) (Nat.le_of_ble_eq_true rfl)) (m_slotOf (show 88 ≤ lo - 24 by omega) V.B.dk hD0 (fun k => Nat.lt_trans (hN3 k) (by decide)) (by omega)) ?_
  rw [hj, fi_n (by omega)]
  refine eR.step 4 (F' := (87, [(0, .ref 23), (1, .int (nI 1)), (2, .int (nI (f))), (3, .int (nI (p0))), (4, .int (nI (j)))], [.int (nI 0), .ref 23])) (h' := (Wd C e P Q m0 N0 R t Z)) (fun _ _ => rfl) ?_
  refine eR.sim rfl (F := (90, [(0, .ref 23), (1, .int (nI 1)), (2, .int (nI (f))), (3, .int (nI (p0))), (4, .int (nI (j)))], [])) (h' := (Wd C e P (Q.1, 0) m0 N0 R t Z)) (by rfl) ?_
  refine eR.step 1 (F' := (91, [(0, .ref 23), (1, .int (nI 1)), (2, .int (nI (f))), (3, .int (nI (p0))), (4, .int (nI (j)))], [.ref 23])) (h' := (Wd C e P (Q.1, 0) m0 N0 R t Z)) (fun _ _ => rfl) ?_
  refine eR.call (k' := 123) (as := [.ref 23]) (rest := []) (v := some (.int (nI (ab e P N0)))) (h1 := (Wd C e (P.1, 0) (Q.1, 0) (pP P.1 P.2 N0).2.1 (pP P.1 P.2 N0).2.2 R (tf e (ab e P N0)) Z)) rfl rfl rfl rfl (eg (Nat.le_of_ble_eq_true rfl) (show 23 ≤ lo by omega) (Nat.le_of_ble_eq_true rfl)) (m_above (show 136 ≤ lo - 23 by omega) V hN3 ht hl) ?_
  rw [hp0, hm0, hN0]
  refine eR.step 3 (F' := (98, [(0, .ref 23), (1, .int (nI 1)), (2, .int (nI (f))), (3, .int (nI (p0))), (4, .int (nI (j))), (5, .int (nI (p)))], [.int (nI (f)), .ref 23])) (h' := (Wd C e (P.1, 0) (Q.1, 0) m1 N1 R (tf e p) Z)) (fun _ _ => rfl) ?_
  refine eR.ifc rfl true ((nc_ne (b := 0) (by omega) (by decide)).trans (decide_eq_true (by omega))) ?_
  refine eR.step 2 (F' := (107, [(0, .ref 23), (1, .int (nI 1)), (2, .int (nI (f))), (3, .int (nI (p0))), (4, .int (nI (j))), (5, .int (nI (p)))], [.int (nI 2), .int (nI 0), .ref 23])) (h' := (Wd C e (P.1, 0) (Q.1, 0) m1 N1 R (tf e p) Z)) (fun _ _ => rfl) ?_
  rw [tf_0 h11 hpn]
  refine eR.call (k' := 136) (as := [.ref 23, .int (nI 0), .int (nI 2)]) (rest := []) (v := none) (h1 := (Wd C e (P.1, 0) (Q.1, 0) m1 N1 R (ri false 0 2) Z)) rfl rfl rfl rfl (eg (Nat.le_of_ble_eq_true rfl) (show 22 ≤ lo by omega) (Nat.le_of_ble_eq_true rfl)) (m_refIf (b := false) (show 21 ≤ lo - 22 by omega) (by decide)) ?_
  rw [show ri false 0 2 = 0 from rfl]
  refine eR.step 2 (F' := (114, [(0, .ref 23), (1, .int (nI 1)), (2, .int (nI (f))), (3, .int (nI (p0))), (4, .int (nI (j))), (5, .int (nI (p)))], [.int (nI 0)])) (h' := (Wd C e (P.1, 0) (Q.1, 0) m1 N1 R 0 Z)) (fun _ _ => rfl) ?_
  refine eR.ifc rfl false ((nc_ne (b := 0) (by omega) (by decide)).trans (decide_eq_false (by omega))) ?_
  refine eR.step 3 (F' := (120, [(0, .ref 23), (1, .int (nI 1)), (2, .int (nI (f))), (3, .int (nI (p0))), (4, .int (nI (j))), (5, .int (nI (p)))], [.int (nI 1), .int (nI (f)), .ref 23])) (h' := (Wd C e (P.1, 0) (Q.1, 0) m1 N1 R 0 Z)) (fun _ _ => rfl) ?_
  refine eR.icmp rfl true ((nc_ne (by omega) (by omega)).trans (decide_eq_true (by omega))) ?_
  refine eR.step 2 (F' := (129, [(0, .ref 23), (1, .int (nI 1)), (2, .int (nI (f))), (3, .int (nI (p0))), (4, .int (nI (j))), (5, .int (nI (p)))], [.int (nI 3), .int (nI 0), .ref 23])) (h' := (Wd C e (P.1, 0) (Q.1, 0) m1 N1 R 0 Z)) (fun _ _ => rfl) ?_
  refine eR.call (k' := 136) (as := [.ref 23, .int (nI 0), .int (nI 3)]) (rest := []) (v := none) (h1 := (Wd C e (P.1, 0) (Q.1, 0) m1 N1 R (ri false 0 3) Z)) rfl rfl rfl rfl (eg (Nat.le_of_ble_eq_true rfl) (show 22 ≤ lo by omega) (Nat.le_of_ble_eq_true rfl)) (m_refIf (b := false) (show 21 ≤ lo - 22 by omega) (by decide)) ?_
  rw [show ri false 0 3 = 0 from rfl]
  refine eR.step 3 (F' := (135, [(0, .ref 23), (1, .int (nI 1)), (2, .int (nI (f))), (3, .int (nI (p0))), (4, .int (nI (j))), (5, .int (nI (p)))], [.int (nI (f)), .ref 23, .ref 23])) (h' := (Wd C e (P.1, 0) (Q.1, 0) m1 N1 R 0 Z)) (fun _ _ => rfl) ?_
  have h6 := V.B.dk.1 (32 + (16 * f))
  refine eR.call (k' := 128) (as := [.ref 23, .int (nI (f))]) (rest := [.ref 23]) (v := some (.int (nI (e (32 + (16 * f)))))) (h1 := (Wd C e (P.1, 0) (Q.1, 0) m1 N1 R 0 Z)) rfl rfl rfl rfl (eg (Nat.le_of_ble_eq_true rfl) (show 21 ≤ lo by omega) (Nat.le_of_ble_eq_true rfl)) (m_kind (show 20 ≤ lo - 21 by omega) hf) ?_
  refine eR.step 1 (F' := (139, [(0, .ref 23), (1, .int (nI 1)), (2, .int (nI (f))), (3, .int (nI (p0))), (4, .int (nI (j))), (5, .int (nI (p)))], [.int (nI 2), .int (nI (e (32 + (16 * f)))), .ref 23])) (h' := (Wd C e (P.1, 0) (Q.1, 0) m1 N1 R 0 Z)) (fun _ _ => rfl) ?_
  refine eR.icmp rfl false ((nc_ne (by omega) (by omega)).trans (decide_eq_false (by omega))) ?_
  refine eR.step 3 (F' := (146, [(0, .ref 23), (1, .int (nI 1)), (2, .int (nI (f))), (3, .int (nI (p0))), (4, .int (nI (j))), (5, .int (nI (p)))], [.int (nI (f)), .int (nI (p)), .ref 23, .ref 23])) (h' := (Wd C e (P.1, 0) (Q.1, 0) m1 N1 R 0 Z)) (fun _ _ => rfl) ?_
  refine eR.call (k' := 151) (as := [.ref 23, .int (nI (p)), .int (nI (f))]) (rest := [.ref 23]) (v := some (.int (nI (bi (up e f p 16))))) (h1 := (Wd C e (P.1, 0) (Q.1, 0) m1 N1 R 0 Z)) rfl rfl rfl rfl (eg (Nat.le_of_ble_eq_true rfl) (show 23 ≤ lo by omega) (Nat.le_of_ble_eq_true rfl)) (m_lies (show 88 ≤ lo - 23 by omega) V hp hkp hf) ?_
  refine eR.ifc rfl true (mb_ef hu) ?_
  refine eR.step 2 (F' := (158, [(0, .ref 23), (1, .int (nI 1)), (2, .int (nI (f))), (3, .int (nI (p0))), (4, .int (nI (j))), (5, .int (nI (p)))], [.int (nI 4), .int (nI 0), .ref 23])) (h' := (Wd C e (P.1, 0) (Q.1, 0) m1 N1 R 0 Z)) (fun _ _ => rfl) ?_
  refine eR.call (k' := 136) (as := [.ref 23, .int (nI 0), .int (nI 4)]) (rest := []) (v := none) (h1 := (Wd C e (P.1, 0) (Q.1, 0) m1 N1 R (ri false 0 4) Z)) rfl rfl rfl rfl (eg (Nat.le_of_ble_eq_true rfl) (show 22 ≤ lo by omega) (Nat.le_of_ble_eq_true rfl)) (m_refIf (b := false) (show 21 ≤ lo - 22 by omega) (by decide)) ?_
  rw [show ri false 0 4 = 0 from rfl]
  refine eR.step 6 (F' := (170, [(0, .ref 23), (1, .int (nI 1)), (2, .int (nI (f))), (3, .int (nI (p0))), (4, .int (nI (j))), (5, .int (nI (p)))], [.int (nI 1), .int (nI (m1)), .int (nI (p)), .ref 23, .ref 23])) (h' := (Wd C e (P.1, 0) (Q.1, 0) m1 N1 R 0 Z)) (fun _ _ => rfl) ?_
  refine eR.nsub rfl (by omega) ?_
  refine eR.call (k' := 129) (as := [.ref 23, .int (nI (p)), .int (nI (m1 - 1))]) (rest := [.ref 23]) (v := some (.int (fi (fd e p (fun q => N1 (7 * (m1 - 1) + q)) 2 (sn e p - 2))))) (h1 := (Wd C e (P.1, 0) (Q.1, 0) m1 N1 R 0 Z)) rfl rfl rfl rfl (eg (Nat.le_of_ble_eq_true rfl) (show 24 ≤ lo by omega) (Nat.le_of_ble_eq_true rfl)) (m_slotOf (show 88 ≤ lo - 24 by omega) V.B.dk hD (fun k => Nat.lt_trans (hN1 k) (by decide)) (by omega)) ?_
  have hB3 := cf_b e 3 64 0
  have hR1 := rN_le e p
  refine eR.ifc rfl false (mc_gi0 hF) ?_
  refine eR.step 2 (F' := (180, [(0, .ref 23), (1, .int (nI 1)), (2, .int (nI (f))), (3, .int (nI (p0))), (4, .int (nI (j))), (5, .int (nI (p)))], [.int (nI (p)), .ref 23, .ref 23])) (h' := (Wd C e (P.1, 0) (Q.1, 0) m1 N1 R 0 Z)) (fun _ _ => rfl) ?_
  refine eR.call (k' := 134) (as := [.ref 23, .int (nI (p))]) (rest := [.ref 23]) (v := some (.int (nI (rN e p)))) (h1 := (Wd C e (P.1, 0) (Q.1, 0) m1 N1 R 0 Z)) rfl rfl rfl rfl (eg (Nat.le_of_ble_eq_true rfl) (show 21 ≤ lo by omega) (Nat.le_of_ble_eq_true rfl)) (m_room (show 110 ≤ lo - 21 by omega) V.B.dk hD) ?_
  refine eR.step 3 (F' := (187, [(0, .ref 23), (1, .int (nI 1)), (2, .int (nI (f))), (3, .int (nI (p0))), (4, .int (nI (j))), (5, .int (nI (p)))], [.int (nI 64), .int (nI 3), .ref 23, .int (nI (rN e p)), .ref 23])) (h' := (Wd C e (P.1, 0) (Q.1, 0) m1 N1 R 0 Z)) (fun _ _ => rfl) ?_
  refine eR.call (k' := 133) (as := [.ref 23, .int (nI 3), .int (nI 64)]) (rest := [.int (nI (rN e p)), .ref 23]) (v := some (.int (nI (cf e 3 0 64)))) (h1 := (Wd C e (P.1, 0) (Q.1, 0) m1 N1 R 0 Z)) rfl rfl rfl rfl (eg (Nat.le_of_ble_eq_true rfl) (show 24 ≤ lo by omega) (Nat.le_of_ble_eq_true rfl)) (m_free (show 22 ≤ lo - 24 by omega) V.B.dk (by decide) (by decide)) ?_
  refine eR.icmp rfl false ((nc_le (by omega) (by omega)).trans (decide_eq_false (by omega))) ?_
  refine eR.step 3 (F' := (199, [(0, .ref 23), (1, .int (nI 1)), (2, .int (nI (f))), (3, .int (nI (p0))), (4, .int (nI (j))), (5, .int (nI (p)))], [.int (nI 1), .int (nI 1), .ref 23])) (h' := (Wd C e (P.1, 0) (Q.1, 0) m1 N1 R 0 Z)) (fun _ _ => rfl) ?_
  refine eR.call (k' := 136) (as := [.ref 23, .int (nI 1), .int (nI 1)]) (rest := []) (v := none) (h1 := (Wd C e (P.1, 0) (Q.1, 0) m1 N1 R (ri true 0 1) Z)) rfl rfl rfl rfl (eg (Nat.le_of_ble_eq_true rfl) (show 22 ≤ lo by omega) (Nat.le_of_ble_eq_true rfl)) (m_refIf (b := true) (show 21 ≤ lo - 22 by omega) (by decide)) ?_
  rw [show ri true 0 1 = 1 from rfl]
  refine eR.step 2 (F' := (206, [(0, .ref 23), (1, .int (nI 1)), (2, .int (nI (f))), (3, .int (nI (p0))), (4, .int (nI (j))), (5, .int (nI (p)))], [.int (nI 1)])) (h' := (Wd C e (P.1, 0) (Q.1, 0) m1 N1 R 1 Z)) (fun _ _ => rfl) ?_
  refine eR.ifc rfl false ((nc_eq (b := 0) (by omega) (by decide)).trans (decide_eq_false (by omega))) ?_
  refine eR.step 1 (F' := (210, [(0, .ref 23), (1, .int (nI 1)), (2, .int (nI (f))), (3, .int (nI (p0))), (4, .int (nI (j))), (5, .int (nI (p)))], [.int (nI 0)])) (h' := (Wd C e (P.1, 0) (Q.1, 0) m1 N1 R 1 Z)) (fun _ _ => rfl) ?_
  exact eR.ret rfl rfl rfl
theorem m_renameD {cm sm fr lo : Nat} {C : gC} {e : Nat → Nat} {P Q : gT} {m : Nat} {N : Nat → Nat} {R : gS} {t : Nat} {Z : mj_H} (hlo : 159 ≤ lo) (V : qV e) (hN : ∀ k, N k < 256) (ht : ∀ k, P.1 k < 65536) (hl : P.2 ≤ 40) (ht2 : ∀ k, Q.1 k < 65536) (hl2 : Q.2 ≤ 40) {f p p0 m1 m0 : Nat} {N1 N0 : Nat → Nat} (hq0 : (pP Q.1 Q.2 N).2.1 = m0) (hqN : (pP Q.1 Q.2 N).2.2 = N0) (hp0 : ab e P N0 = p) (hm0 : (pP P.1 P.2 N0).2.1 = m1) (hN0 : (pP P.1 P.2 N0).2.2 = N1) (hN3 : ∀ k, N0 k < 256) (h11 : e 11 = 1) (h1 : (pP Q.1 Q.2 N).1 = true) (hld : ld e N0 m0 = f) (hfn : ¬ f = 0) (hf : f < 16) (hm : 0 < m0) (hld0 : ld e N0 (m0 - 1) = p0) (hp0n : ¬ p0 = 0) (hp016 : p0 < 16) (hD0 : gD e p0) {j : Nat} (hj : fd e p0 (fun q => N0 (7 * (m0 - 1) + q)) 2 (sn e p0 - 2) = j) (hj2 : 2 ≤ j) (hj24 : j < 24) (hpn : ¬ p = 0) (hm1 : 1 ≤ m1) (hm2 : m1 ≤ 20) (hN1 : ∀ k, N1 k < 256) (hp : p < 16) (hkp : e (32 + (16 * p)) = 2) (hD : gD e p) (hf1 : ¬ f = 1) (hk : e (32 + (16 * f)) = 2) (hu : ¬ up e f p 16 = true) (hF : fd e p (fun q => N1 (7 * (m1 - 1) + q)) 2 (sn e p - 2) = 0) (hr : ¬ cf e 3 0 64 < rN e p) (hn : nsl e p ≠ 0) (hc2 : bw e p (nsl e p / 4) (nsl e p / 4) ≤ cf e 3 9 55) (hdk : dk (rA e p f (fun q => N1 (7 * (m1 - 1) + q)))) (gh : gD (rA e p f (fun q => N1 (7 * (m1 - 1) + q))) p0) (ck : (cz (rA e p f (fun q => N1 (7 * (m1 - 1) + q))) (sa (rA e p f (fun q => N1 (7 * (m1 - 1) + q))) p0 j) 8) (32 + (16 * f)) = e (32 + (16 * f))) (gc : gD (cz (rA e p f (fun q => N1 (7 * (m1 - 1) + q))) (sa (rA e p f (fun q => N1 (7 * (m1 - 1) + q))) p0 j) 8) f) (l1 : 1 ≤ (dp (cz (rA e p f (fun q => N1 (7 * (m1 - 1) + q))) (sa (rA e p f (fun q => N1 (7 * (m1 - 1) + q))) p0 j) 8) (sa (cz (rA e p f (fun q => N1 (7 * (m1 - 1) + q))) (sa (rA e p f (fun q => N1 (7 * (m1 - 1) + q))) p0 j) 8) f 1) p) (32 + (16 * p0) + 1)) (l2 : (al (dp (cz (rA e p f (fun q => N1 (7 * (m1 - 1) + q))) (sa (rA e p f (fun q => N1 (7 * (m1 - 1) + q))) p0 j) 8) (sa (cz (rA e p f (fun q => N1 (7 * (m1 - 1) + q))) (sa (rA e p f (fun q => N1 (7 * (m1 - 1) + q))) p0 j) 8) f 1) p) p0 4294967295) (32 + (16 * p) + 1) < 255)  : eE mm_P cm sm (fr + 8) lo 150 [.ref 23] (Wd C e P Q m N R t Z) (.inl (some (.int (nI (f)))), (Wd C (al (al (dp (cz (rA e p f (fun q => N1 (7 * (m1 - 1) + q))) (sa (rA e p f (fun q => N1 (7 * (m1 - 1) + q))) p0 j) 8) (sa (cz (rA e p f (fun q => N1 (7 * (m1 - 1) + q))) (sa (rA e p f (fun q => N1 (7 * (m1 - 1) + q))) p0 j) 8) f 1) p) p0 4294967295) p 1) (P.1, 0) (Q.1, 0) m1 N1 R 0 Z)) := by
  refine eE.of ?_
  have htf := tf_le e p
  have h11b := V.B.dk.1 11
  refine eR.step 2 (F' := (2, [(0, .ref 23)], [.int (nI 1), .ref 23])) (h' := (Wd C e P Q m N R t Z)) (fun _ _ => rfl) ?_
  refine eR.call (k' := 124) (as := [.ref 23, .int (nI 1)]) (rest := []) (v := some (.int (nI (bi (pP Q.1 Q.2 N).1)))) (h1 := (Wd C e P Q (pP Q.1 Q.2 N).2.1 (pP Q.1 Q.2 N).2.2 R t Z)) rfl rfl rfl rfl (eg (Nat.le_of_ble_eq_true rfl) (show 25 ≤ lo by omega) (Nat.le_of_ble_eq_true rfl)) (m_parse1 (show 22 ≤ lo - 25 by omega) ht2 hl2) ?_
  rw [hq0, hqN]
  have hml := pP_len hl2 h1
  rw [hq0] at hml
  refine eR.ifc rfl false (mb_et h1) ?_
  refine eR.step 1 (F' := (9, [(0, .ref 23)], [.ref 23])) (h' := (Wd C e P Q m0 N0 R t Z)) (fun _ _ => rfl) ?_
  refine eR.call (k' := 126) (as := [.ref 23]) (rest := []) (v := some (.int (nI (bi (decide (e 11 = 1)))))) (h1 := (Wd C e P Q m0 N0 R t Z)) rfl rfl rfl rfl (eg (Nat.le_of_ble_eq_true rfl) (show 20 ≤ lo by omega) (Nat.le_of_ble_eq_true rfl)) (m_clean V.B.dk) ?_
  refine eR.ifc rfl false (mb_et (decide_eq_true h11)) ?_
  refine eR.step 4 (F' := (22, [(0, .ref 23), (1, .int (nI 1))], [.int (nI 1)])) (h' := (Wd C e P Q m0 N0 R t Z)) (fun _ _ => rfl) ?_
  refine eR.ifc rfl false rfl ?_
  refine eR.step 3 (F' := (30, [(0, .ref 23), (1, .int (nI 1))], [.int (nI (m0)), .ref 23])) (h' := (Wd C e P Q m0 N0 R t Z)) (fun _ _ => rfl) ?_
  refine eR.call (k' := 127) (as := [.ref 23, .int (nI (m0))]) (rest := []) (v := some (.int (nI (ld e N0 m0)))) (h1 := (Wd C e P Q m0 N0 R t Z)) rfl rfl rfl rfl (eg (Nat.le_of_ble_eq_true rfl) (show 24 ≤ lo by omega) (Nat.le_of_ble_eq_true rfl)) (m_lead (show 112 ≤ lo - 24 by omega) V hN3 hml) ?_
  rw [hld]
  refine eR.step 3 (F' := (39, [(0, .ref 23), (1, .int (nI 1)), (2, .int (nI (f)))], [.int (nI (f))])) (h' := (Wd C e P Q m0 N0 R t Z)) (fun _ _ => rfl) ?_
  refine eR.ifc rfl false ((nc_eq (b := 0) (by omega) (by decide)).trans (decide_eq_false (by omega))) ?_
  refine eR.step 2 (F' := (46, [(0, .ref 23), (1, .int (nI 1)), (2, .int (nI (f)))], [.int (nI (m0))])) (h' := (Wd C e P Q m0 N0 R t Z)) (fun _ _ => rfl) ?_
  refine eR.ifc rfl false ((nc_le (b := 0) (by omega) (by decide)).trans (decide_eq_false (by omega))) ?_
  refine eR.step 4 (F' := (55, [(0, .ref 23), (1, .int (nI 1)), (2, .int (nI (f)))], [.int (nI 1), .int (nI (m0)), .ref 23])) (h' := (Wd C e P Q m0 N0 R t Z)) (fun _ _ => rfl) ?_
  refine eR.nsub rfl (by omega) ?_
  refine eR.call (k' := 127) (as := [.ref 23, .int (nI (m0 - 1))]) (rest := []) (v := some (.int (nI (ld e N0 (m0 - 1))))) (h1 := (Wd C e P Q m0 N0 R t Z)) rfl rfl rfl rfl (eg (Nat.le_of_ble_eq_true rfl) (show 24 ≤ lo by omega) (Nat.le_of_ble_eq_true rfl)) (m_lead (show 112 ≤ lo - 24 by omega) V hN3 (by omega)) ?_
  rw [hld0]
  refine eR.step 3 (F' := (65, [(0, .ref 23), (1, .int (nI 1)), (2, .int (nI (f))), (3, .int (nI (p0)))], [.int (nI (p0))])) (h' := (Wd C e P Q m0 N0 R t Z)) (fun _ _ => rfl) ?_
  refine eR.ifc rfl false ((nc_eq (b := 0) (by omega) (by decide)).trans (decide_eq_false (by omega))) ?_
  refine eR.step 5 (F' := (75, [(0, .ref 23), (1, .int (nI 1)), (2, .int (nI (f))), (3, .int (nI (p0)))], [.int (nI 1), .int (nI (m0)), .int (nI (p0)), .ref 23])) (h' := (Wd C e P Q m0 N0 R t Z)) (fun _ _ => rfl) ?_
  refine eR.nsub rfl (by omega) ?_
  refine eR.call (k' := 129) (as := [.ref 23, .int (nI (p0)), .int (nI (m0 - 1))]) (rest := []) (v := some (.int (fi (fd e p0 (fun q => N0 (7 * (m0 - 1) + q)) 2 (sn e p0 - 2))))) (h1 := (Wd C e P Q m0 N0 R t Z)) rfl rfl rfl rfl (eg (Nat.le_of_ble_eq_true rfl) (show 24 ≤ lo by omega) (Nat.le_of_ble_eq_true rfl)) (m_slotOf (show 88 ≤ lo - 24 by omega) V.B.dk hD0 (fun k => Nat.lt_trans (hN3 k) (by decide)) (by omega)) ?_
  rw [hj, fi_n (by omega)]
  refine eR.step 4 (F' := (87, [(0, .ref 23), (1, .int (nI 1)), (2, .int (nI (f))), (3, .int (nI (p0))), (4, .int (nI (j)))], [.int (nI 0), .ref 23])) (h' := (Wd C e P Q m0 N0 R t Z)) (fun _ _ => rfl) ?_
  refine eR.sim rfl (F := (90, [(0, .ref 23), (1, .int (nI 1)), (2, .int (nI (f))), (3, .int (nI (p0))), (4, .int (nI (j)))], [])) (h' := (Wd C e P (Q.1, 0) m0 N0 R t Z)) (by rfl) ?_
  refine eR.step 1 (F' := (91, [(0, .ref 23), (1, .int (nI 1)), (2, .int (nI (f))), (3, .int (nI (p0))), (4, .int (nI (j)))], [.ref 23])) (h' := (Wd C e P (Q.1, 0) m0 N0 R t Z)) (fun _ _ => rfl) ?_
  refine eR.call (k' := 123) (as := [.ref 23]) (rest := []) (v := some (.int (nI (ab e P N0)))) (h1 := (Wd C e (P.1, 0) (Q.1, 0) (pP P.1 P.2 N0).2.1 (pP P.1 P.2 N0).2.2 R (tf e (ab e P N0)) Z)) rfl rfl rfl rfl (eg (Nat.le_of_ble_eq_true rfl) (show 23 ≤ lo by omega) (Nat.le_of_ble_eq_true rfl)) (m_above (show 136 ≤ lo - 23 by omega) V hN3 ht hl) ?_
  rw [hp0, hm0, hN0]
  refine eR.step 3 (F' := (98, [(0, .ref 23), (1, .int (nI 1)), (2, .int (nI (f))), (3, .int (nI (p0))), (4, .int (nI (j))), (5, .int (nI (p)))], [.int (nI (f)), .ref 23])) (h' := (Wd C e (P.1, 0) (Q.1, 0) m1 N1 R (tf e p) Z)) (fun _ _ => rfl) ?_
  refine eR.ifc rfl true ((nc_ne (b := 0) (by omega) (by decide)).trans (decide_eq_true (by omega))) ?_
  refine eR.step 2 (F' := (107, [(0, .ref 23), (1, .int (nI 1)), (2, .int (nI (f))), (3, .int (nI (p0))), (4, .int (nI (j))), (5, .int (nI (p)))], [.int (nI 2), .int (nI 0), .ref 23])) (h' := (Wd C e (P.1, 0) (Q.1, 0) m1 N1 R (tf e p) Z)) (fun _ _ => rfl) ?_
  rw [tf_0 h11 hpn]
  refine eR.call (k' := 136) (as := [.ref 23, .int (nI 0), .int (nI 2)]) (rest := []) (v := none) (h1 := (Wd C e (P.1, 0) (Q.1, 0) m1 N1 R (ri false 0 2) Z)) rfl rfl rfl rfl (eg (Nat.le_of_ble_eq_true rfl) (show 22 ≤ lo by omega) (Nat.le_of_ble_eq_true rfl)) (m_refIf (b := false) (show 21 ≤ lo - 22 by omega) (by decide)) ?_
  rw [show ri false 0 2 = 0 from rfl]
  refine eR.step 2 (F' := (114, [(0, .ref 23), (1, .int (nI 1)), (2, .int (nI (f))), (3, .int (nI (p0))), (4, .int (nI (j))), (5, .int (nI (p)))], [.int (nI 0)])) (h' := (Wd C e (P.1, 0) (Q.1, 0) m1 N1 R 0 Z)) (fun _ _ => rfl) ?_
  refine eR.ifc rfl false ((nc_ne (b := 0) (by omega) (by decide)).trans (decide_eq_false (by omega))) ?_
  refine eR.step 3 (F' := (120, [(0, .ref 23), (1, .int (nI 1)), (2, .int (nI (f))), (3, .int (nI (p0))), (4, .int (nI (j))), (5, .int (nI (p)))], [.int (nI 1), .int (nI (f)), .ref 23])) (h' := (Wd C e (P.1, 0) (Q.1, 0) m1 N1 R 0 Z)) (fun _ _ => rfl) ?_
  refine eR.icmp rfl true ((nc_ne (by omega) (by omega)).trans (decide_eq_true (by omega))) ?_
  refine eR.step 2 (F' := (129, [(0, .ref 23), (1, .int (nI 1)), (2, .int (nI (f))), (3, .int (nI (p0))), (4, .int (nI (j))), (5, .int (nI (p)))], [.int (nI 3), .int (nI 0), .ref 23])) (h' := (Wd C e (P.1, 0) (Q.1, 0) m1 N1 R 0 Z)) (fun _ _ => rfl) ?_
  refine eR.call (k' := 136) (as := [.ref 23, .int (nI 0), .int (nI 3)]) (rest := []) (v := none) (h1 := (Wd C e (P.1, 0) (Q.1, 0) m1 N1 R (ri false 0 3) Z)) rfl rfl rfl rfl (eg (Nat.le_of_ble_eq_true rfl) (show 22 ≤ lo by omega) (Nat.le_of_ble_eq_true rfl)) (m_refIf (b := false) (show 21 ≤ lo - 22 by omega) (by decide)) ?_
  rw [show ri false 0 3 = 0 from rfl]
  refine eR.step 3 (F' := (135, [(0, .ref 23), (1, .int (nI 1)), (2, .int (nI (f))), (3, .int (nI (p0))), (4, .int (nI (j))), (5, .int (nI (p)))], [.int (nI (f)), .ref 23, .ref 23])) (h' := (Wd C e (P.1, 0) (Q.1, 0) m1 N1 R 0 Z)) (fun _ _ => rfl) ?_
  have h6 := V.B.dk.1 (32 + (16 * f))
  refine eR.call (k' := 128) (as := [.ref 23, .int (nI (f))]) (rest := [.ref 23]) (v := some (.int (nI (e (32 + (16 * f)))))) (h1 := (Wd C e (P.1, 0) (Q.1, 0) m1 N1 R 0 Z)) rfl rfl rfl rfl (eg (Nat.le_of_ble_eq_true rfl) (show 21 ≤ lo by omega) (Nat.le_of_ble_eq_true rfl)) (m_kind (show 20 ≤ lo - 21 by omega) hf) ?_
  refine eR.step 1 (F' := (139, [(0, .ref 23), (1, .int (nI 1)), (2, .int (nI (f))), (3, .int (nI (p0))), (4, .int (nI (j))), (5, .int (nI (p)))], [.int (nI 2), .int (nI (e (32 + (16 * f)))), .ref 23])) (h' := (Wd C e (P.1, 0) (Q.1, 0) m1 N1 R 0 Z)) (fun _ _ => rfl) ?_
  refine eR.icmp rfl false ((nc_ne (by omega) (by omega)).trans (decide_eq_false (by omega))) ?_
  refine eR.step 3 (F' := (146, [(0, .ref 23), (1, .int (nI 1)), (2, .int (nI (f))), (3, .int (nI (p0))), (4, .int (nI (j))), (5, .int (nI (p)))], [.int (nI (f)), .int (nI (p)), .ref 23, .ref 23])) (h' := (Wd C e (P.1, 0) (Q.1, 0) m1 N1 R 0 Z)) (fun _ _ => rfl) ?_
  refine eR.call (k' := 151) (as := [.ref 23, .int (nI (p)), .int (nI (f))]) (rest := [.ref 23]) (v := some (.int (nI (bi (up e f p 16))))) (h1 := (Wd C e (P.1, 0) (Q.1, 0) m1 N1 R 0 Z)) rfl rfl rfl rfl (eg (Nat.le_of_ble_eq_true rfl) (show 23 ≤ lo by omega) (Nat.le_of_ble_eq_true rfl)) (m_lies (show 88 ≤ lo - 23 by omega) V hp hkp hf) ?_
  refine eR.ifc rfl true (mb_ef hu) ?_
  refine eR.step 2 (F' := (158, [(0, .ref 23), (1, .int (nI 1)), (2, .int (nI (f))), (3, .int (nI (p0))), (4, .int (nI (j))), (5, .int (nI (p)))], [.int (nI 4), .int (nI 0), .ref 23])) (h' := (Wd C e (P.1, 0) (Q.1, 0) m1 N1 R 0 Z)) (fun _ _ => rfl) ?_
  refine eR.call (k' := 136) (as := [.ref 23, .int (nI 0), .int (nI 4)]) (rest := []) (v := none) (h1 := (Wd C e (P.1, 0) (Q.1, 0) m1 N1 R (ri false 0 4) Z)) rfl rfl rfl rfl (eg (Nat.le_of_ble_eq_true rfl) (show 22 ≤ lo by omega) (Nat.le_of_ble_eq_true rfl)) (m_refIf (b := false) (show 21 ≤ lo - 22 by omega) (by decide)) ?_
  rw [show ri false 0 4 = 0 from rfl]
  refine eR.step 6 (F' := (170, [(0, .ref 23), (1, .int (nI 1)), (2, .int (nI (f))), (3, .int (nI (p0))), (4, .int (nI (j))), (5, .int (nI (p)))], [.int (nI 1), .int (nI (m1)), .int (nI (p)), .ref 23, .ref 23])) (h' := (Wd C e (P.1, 0) (Q.1, 0) m1 N1 R 0 Z)) (fun _ _ => rfl) ?_
  refine eR.nsub rfl (by omega) ?_
  refine eR.call (k' := 129) (as := [.ref 23, .int (nI (p)), .int (nI (m1 - 1))]) (rest := [.ref 23]) (v := some (.int (fi (fd e p (fun q => N1 (7 * (m1 - 1) + q)) 2 (sn e p - 2))))) (h1 := (Wd C e (P.1, 0) (Q.1, 0) m1 N1 R 0 Z)) rfl rfl rfl rfl (eg (Nat.le_of_ble_eq_true rfl) (show 24 ≤ lo by omega) (Nat.le_of_ble_eq_true rfl)) (m_slotOf (show 88 ≤ lo - 24 by omega) V.B.dk hD (fun k => Nat.lt_trans (hN1 k) (by decide)) (by omega)) ?_
  have hB3 := cf_b e 3 64 0
  have hR1 := rN_le e p
  refine eR.ifc rfl false (mc_gi0 hF) ?_
  refine eR.step 2 (F' := (180, [(0, .ref 23), (1, .int (nI 1)), (2, .int (nI (f))), (3, .int (nI (p0))), (4, .int (nI (j))), (5, .int (nI (p)))], [.int (nI (p)), .ref 23, .ref 23])) (h' := (Wd C e (P.1, 0) (Q.1, 0) m1 N1 R 0 Z)) (fun _ _ => rfl) ?_
  refine eR.call (k' := 134) (as := [.ref 23, .int (nI (p))]) (rest := [.ref 23]) (v := some (.int (nI (rN e p)))) (h1 := (Wd C e (P.1, 0) (Q.1, 0) m1 N1 R 0 Z)) rfl rfl rfl rfl (eg (Nat.le_of_ble_eq_true rfl) (show 21 ≤ lo by omega) (Nat.le_of_ble_eq_true rfl)) (m_room (show 110 ≤ lo - 21 by omega) V.B.dk hD) ?_
  refine eR.step 3 (F' := (187, [(0, .ref 23), (1, .int (nI 1)), (2, .int (nI (f))), (3, .int (nI (p0))), (4, .int (nI (j))), (5, .int (nI (p)))], [.int (nI 64), .int (nI 3), .ref 23, .int (nI (rN e p)), .ref 23])) (h' := (Wd C e (P.1, 0) (Q.1, 0) m1 N1 R 0 Z)) (fun _ _ => rfl) ?_
  refine eR.call (k' := 133) (as := [.ref 23, .int (nI 3), .int (nI 64)]) (rest := [.int (nI (rN e p)), .ref 23]) (v := some (.int (nI (cf e 3 0 64)))) (h1 := (Wd C e (P.1, 0) (Q.1, 0) m1 N1 R 0 Z)) rfl rfl rfl rfl (eg (Nat.le_of_ble_eq_true rfl) (show 24 ≤ lo by omega) (Nat.le_of_ble_eq_true rfl)) (m_free (show 22 ≤ lo - 24 by omega) V.B.dk (by decide) (by decide)) ?_
  refine eR.icmp rfl true ((nc_le (by omega) (by omega)).trans (decide_eq_true (by omega))) ?_
  refine eR.step 2 (F' := (199, [(0, .ref 23), (1, .int (nI 1)), (2, .int (nI (f))), (3, .int (nI (p0))), (4, .int (nI (j))), (5, .int (nI (p)))], [.int (nI 1), .int (nI 0), .ref 23])) (h' := (Wd C e (P.1, 0) (Q.1, 0) m1 N1 R 0 Z)) (fun _ _ => rfl) ?_
  refine eR.call (k' := 136) (as := [.ref 23, .int (nI 0), .int (nI 1)]) (rest := []) (v := none) (h1 := (Wd C e (P.1, 0) (Q.1, 0) m1 N1 R (ri false 0 1) Z)) rfl rfl rfl rfl (eg (Nat.le_of_ble_eq_true rfl) (show 22 ≤ lo by omega) (Nat.le_of_ble_eq_true rfl)) (m_refIf (b := false) (show 21 ≤ lo - 22 by omega) (by decide)) ?_
  rw [show ri false 0 1 = 0 from rfl]
  refine eR.step 2 (F' := (206, [(0, .ref 23), (1, .int (nI 1)), (2, .int (nI (f))), (3, .int (nI (p0))), (4, .int (nI (j))), (5, .int (nI (p)))], [.int (nI 0)])) (h' := (Wd C e (P.1, 0) (Q.1, 0) m1 N1 R 0 Z)) (fun _ _ => rfl) ?_
  refine eR.ifc rfl true ((nc_eq (b := 0) (by omega) (by decide)).trans (decide_eq_true (by omega))) ?_
  refine eR.step 3 (F' := (215, [(0, .ref 23), (1, .int (nI 1)), (2, .int (nI (f))), (3, .int (nI (p0))), (4, .int (nI (j))), (5, .int (nI (p)))], [.int (nI (f)), .int (nI (p)), .ref 23])) (h' := (Wd C e (P.1, 0) (Q.1, 0) m1 N1 R 0 Z)) (fun _ _ => rfl) ?_
  refine eR.call (k' := 138) (as := [.ref 23, .int (nI (p)), .int (nI (f))]) (rest := []) (v := none) (h1 := (Wd C (rA e p f (fun q => N1 (7 * (m1 - 1) + q))) (P.1, 0) (Q.1, 0) m1 N1 R 0 Z)) rfl rfl rfl rfl (eg (Nat.le_of_ble_eq_true rfl) (show 25 ≤ lo by omega) (Nat.le_of_ble_eq_true rfl)) (m_addS (show 110 ≤ lo - 25 by omega) (V.E h11) hN1 hm1 hm2 hp hkp (by omega) hn hc2) ?_
  refine eR.step 3 (F' := (222, [(0, .ref 23), (1, .int (nI 1)), (2, .int (nI (f))), (3, .int (nI (p0))), (4, .int (nI (j))), (5, .int (nI (p)))], [.int (nI (j)), .int (nI (p0)), .ref 23])) (h' := (Wd C (rA e p f (fun q => N1 (7 * (m1 - 1) + q))) (P.1, 0) (Q.1, 0) m1 N1 R 0 Z)) (fun _ _ => rfl) ?_
  refine eR.call (k' := 144) (as := [.ref 23, .int (nI (p0)), .int (nI (j))]) (rest := []) (v := none) (h1 := (Wd C (cz (rA e p f (fun q => N1 (7 * (m1 - 1) + q))) (sa (rA e p f (fun q => N1 (7 * (m1 - 1) + q))) p0 j) 8) (P.1, 0) (Q.1, 0) m1 N1 R 0 Z)) rfl rfl rfl rfl (eg (Nat.le_of_ble_eq_true rfl) (show 24 ≤ lo by omega) (Nat.le_of_ble_eq_true rfl)) (m_clr (show 88 ≤ lo - 24 by omega) hdk gh hj24) ?_
  refine eR.step 2 (F' := (227, [(0, .ref 23), (1, .int (nI 1)), (2, .int (nI (f))), (3, .int (nI (p0))), (4, .int (nI (j))), (5, .int (nI (p)))], [.int (nI (f)), .ref 23])) (h' := (Wd C (cz (rA e p f (fun q => N1 (7 * (m1 - 1) + q))) (sa (rA e p f (fun q => N1 (7 * (m1 - 1) + q))) p0 j) 8) (P.1, 0) (Q.1, 0) m1 N1 R 0 Z)) (fun _ _ => rfl) ?_
  refine eR.call (k' := 128) (as := [.ref 23, .int (nI (f))]) (rest := []) (v := some (.int (nI ((cz (rA e p f (fun q => N1 (7 * (m1 - 1) + q))) (sa (rA e p f (fun q => N1 (7 * (m1 - 1) + q))) p0 j) 8) (32 + (16 * f)))))) (h1 := (Wd C (cz (rA e p f (fun q => N1 (7 * (m1 - 1) + q))) (sa (rA e p f (fun q => N1 (7 * (m1 - 1) + q))) p0 j) 8) (P.1, 0) (Q.1, 0) m1 N1 R 0 Z)) rfl rfl rfl rfl (eg (Nat.le_of_ble_eq_true rfl) (show 21 ≤ lo by omega) (Nat.le_of_ble_eq_true rfl)) (m_kind (show 20 ≤ lo - 21 by omega) hf) ?_
  rw [ck]
  refine eR.step 1 (F' := (231, [(0, .ref 23), (1, .int (nI 1)), (2, .int (nI (f))), (3, .int (nI (p0))), (4, .int (nI (j))), (5, .int (nI (p)))], [.int (nI 2), .int (nI (e (32 + (16 * f))))])) (h' := (Wd C (cz (rA e p f (fun q => N1 (7 * (m1 - 1) + q))) (sa (rA e p f (fun q => N1 (7 * (m1 - 1) + q))) p0 j) 8) (P.1, 0) (Q.1, 0) m1 N1 R 0 Z)) (fun _ _ => rfl) ?_
  have hs9 := sa_2040 gc (show 1 < 24 by omega)
  refine eR.icmp rfl false ((nc_ne (by omega) (by omega)).trans (decide_eq_false (by omega))) ?_
  refine eR.step 5 (F' := (241, [(0, .ref 23), (1, .int (nI 1)), (2, .int (nI (f))), (3, .int (nI (p0))), (4, .int (nI (j))), (5, .int (nI (p)))], [.int (nI 1), .int (nI (f)), .ref 23, .ref 24])) (h' := (Wd C (cz (rA e p f (fun q => N1 (7 * (m1 - 1) + q))) (sa (rA e p f (fun q => N1 (7 * (m1 - 1) + q))) p0 j) 8) (P.1, 0) (Q.1, 0) m1 N1 R 0 Z)) (fun _ _ => rfl) ?_
  refine eR.call (k' := 117) (as := [.ref 23, .int (nI (f)), .int (nI 1)]) (rest := [.ref 24]) (v := some (.int (nI (sa (cz (rA e p f (fun q => N1 (7 * (m1 - 1) + q))) (sa (rA e p f (fun q => N1 (7 * (m1 - 1) + q))) p0 j) 8) f 1)))) (h1 := (Wd C (cz (rA e p f (fun q => N1 (7 * (m1 - 1) + q))) (sa (rA e p f (fun q => N1 (7 * (m1 - 1) + q))) p0 j) 8) (P.1, 0) (Q.1, 0) m1 N1 R 0 Z)) rfl rfl rfl rfl (eg (Nat.le_of_ble_eq_true rfl) (show 22 ≤ lo by omega) (Nat.le_of_ble_eq_true rfl)) (m_slotAt (show 66 ≤ lo - 22 by omega) gc (by omega)) ?_
  refine eR.step 1 (F' := (246, [(0, .ref 23), (1, .int (nI 1)), (2, .int (nI (f))), (3, .int (nI (p0))), (4, .int (nI (j))), (5, .int (nI (p)))], [.int (nI (p)), .int (nI (sa (cz (rA e p f (fun q => N1 (7 * (m1 - 1) + q))) (sa (rA e p f (fun q => N1 (7 * (m1 - 1) + q))) p0 j) 8) f 1)), .ref 24])) (h' := (Wd C (cz (rA e p f (fun q => N1 (7 * (m1 - 1) + q))) (sa (rA e p f (fun q => N1 (7 * (m1 - 1) + q))) p0 j) 8) (P.1, 0) (Q.1, 0) m1 N1 R 0 Z)) (fun _ _ => rfl) ?_
  refine eR.st24 rfl (by omega) (by omega) ?_
  refine eR.step 3 (F' := (250, [(0, .ref 23), (1, .int (nI 1)), (2, .int (nI (f))), (3, .int (nI (p0))), (4, .int (nI (j))), (5, .int (nI (p)))], [.int ((-1 : Int32)), .int (nI (p0)), .ref 23])) (h' := (Wd C (dp (cz (rA e p f (fun q => N1 (7 * (m1 - 1) + q))) (sa (rA e p f (fun q => N1 (7 * (m1 - 1) + q))) p0 j) 8) (sa (cz (rA e p f (fun q => N1 (7 * (m1 - 1) + q))) (sa (rA e p f (fun q => N1 (7 * (m1 - 1) + q))) p0 j) 8) f 1) (p)) (P.1, 0) (Q.1, 0) m1 N1 R 0 Z)) (fun _ _ => rfl) ?_
  refine eR.call (k' := 140) (as := [.ref 23, .int (nI (p0)), .int ((-1 : Int32))]) (rest := []) (v := none) (h1 := (Wd C (al (dp (cz (rA e p f (fun q => N1 (7 * (m1 - 1) + q))) (sa (rA e p f (fun q => N1 (7 * (m1 - 1) + q))) p0 j) 8) (sa (cz (rA e p f (fun q => N1 (7 * (m1 - 1) + q))) (sa (rA e p f (fun q => N1 (7 * (m1 - 1) + q))) p0 j) 8) f 1) p) p0 4294967295) (P.1, 0) (Q.1, 0) m1 N1 R 0 Z)) rfl rfl rfl rfl (eg (Nat.le_of_ble_eq_true rfl) (show 22 ≤ lo by omega) (Nat.le_of_ble_eq_true rfl)) (m_addLm (show 20 ≤ lo - 22 by omega) (dk_dp _ (cz_dk hdk _ _) _ _) hp016 l1) ?_
  refine eR.step 3 (F' := (257, [(0, .ref 23), (1, .int (nI 1)), (2, .int (nI (f))), (3, .int (nI (p0))), (4, .int (nI (j))), (5, .int (nI (p)))], [.int (nI 1), .int (nI (p)), .ref 23])) (h' := (Wd C (al (dp (cz (rA e p f (fun q => N1 (7 * (m1 - 1) + q))) (sa (rA e p f (fun q => N1 (7 * (m1 - 1) + q))) p0 j) 8) (sa (cz (rA e p f (fun q => N1 (7 * (m1 - 1) + q))) (sa (rA e p f (fun q => N1 (7 * (m1 - 1) + q))) p0 j) 8) f 1) p) p0 4294967295) (P.1, 0) (Q.1, 0) m1 N1 R 0 Z)) (fun _ _ => rfl) ?_
  refine eR.call (k' := 140) (as := [.ref 23, .int (nI (p)), .int (nI 1)]) (rest := []) (v := none) (h1 := (Wd C (al (al (dp (cz (rA e p f (fun q => N1 (7 * (m1 - 1) + q))) (sa (rA e p f (fun q => N1 (7 * (m1 - 1) + q))) p0 j) 8) (sa (cz (rA e p f (fun q => N1 (7 * (m1 - 1) + q))) (sa (rA e p f (fun q => N1 (7 * (m1 - 1) + q))) p0 j) 8) f 1) p) p0 4294967295) p 1) (P.1, 0) (Q.1, 0) m1 N1 R 0 Z)) rfl rfl rfl rfl (eg (Nat.le_of_ble_eq_true rfl) (show 22 ≤ lo by omega) (Nat.le_of_ble_eq_true rfl)) (m_addL (show 20 ≤ lo - 22 by omega) hp l2) ?_
  refine eR.step 1 (F' := (261, [(0, .ref 23), (1, .int (nI 1)), (2, .int (nI (f))), (3, .int (nI (p0))), (4, .int (nI (j))), (5, .int (nI (p)))], [.int (nI (f))])) (h' := (Wd C (al (al (dp (cz (rA e p f (fun q => N1 (7 * (m1 - 1) + q))) (sa (rA e p f (fun q => N1 (7 * (m1 - 1) + q))) p0 j) 8) (sa (cz (rA e p f (fun q => N1 (7 * (m1 - 1) + q))) (sa (rA e p f (fun q => N1 (7 * (m1 - 1) + q))) p0 j) 8) f 1) p) p0 4294967295) p 1) (P.1, 0) (Q.1, 0) m1 N1 R 0 Z)) (fun _ _ => rfl) ?_
  exact eR.ret rfl rfl rfl
theorem m_renameB1F {cm sm fr lo : Nat} {C : gC} {e : Nat → Nat} {P Q : gT} {m : Nat} {N : Nat → Nat} {R : gS} {t : Nat} {Z : mj_H} (hlo : 159 ≤ lo) (V : qV e) (hN : ∀ k, N k < 256) (ht : ∀ k, P.1 k < 65536) (hl : P.2 ≤ 40) (ht2 : ∀ k, Q.1 k < 65536) (hl2 : Q.2 ≤ 40) {f p p0 m1 m0 : Nat} {N1 N0 : Nat → Nat} (hq0 : (pP Q.1 Q.2 N).2.1 = m0) (hqN : (pP Q.1 Q.2 N).2.2 = N0) (hp0 : ab e P N0 = p) (hm0 : (pP P.1 P.2 N0).2.1 = m1) (hN0 : (pP P.1 P.2 N0).2.2 = N1) (hN3 : ∀ k, N0 k < 256) (h11 : e 11 = 1) (h1 : (pP Q.1 Q.2 N).1 = true) (hld : ld e N0 m0 = f) (hfn : ¬ f = 0) (hf : f < 16) (hm : 0 < m0) (hld0 : ld e N0 (m0 - 1) = p0) (hp0n : ¬ p0 = 0) (hp016 : p0 < 16) (hD0 : gD e p0) {j : Nat} (hj : fd e p0 (fun q => N0 (7 * (m0 - 1) + q)) 2 (sn e p0 - 2) = j) (hj2 : 2 ≤ j) (hj24 : j < 24) (hpn : ¬ p = 0) (hm1 : 1 ≤ m1) (hm2 : m1 ≤ 20) (hN1 : ∀ k, N1 k < 256) (hp : p < 16) (hkp : e (32 + (16 * p)) = 2) (hD : gD e p) (hf1 : ¬ f = 1) (hk : ¬ e (32 + (16 * f)) = 2) (hF : ¬ fd e p (fun q => N1 (7 * (m1 - 1) + q)) 2 (sn e p - 2) = 0) : eE mm_P cm sm (fr + 8) lo 150 [.ref 23] (Wd C e P Q m N R t Z) (.inl (some (.int (nI 0))), (Wd C e (P.1, 0) (Q.1, 0) m1 N1 R 1 Z)) := by
  refine eE.of ?_
  have htf := tf_le e p
  have h11b := V.B.dk.1 11
  refine eR.step 2 (F' := (2, [(0, .ref 23)], [.int (nI 1), .ref 23])) (h' := (Wd C e P Q m N R t Z)) (fun _ _ => rfl) ?_
  refine eR.call (k' := 124) (as := [.ref 23, .int (nI 1)]) (rest := []) (v := some (.int (nI (bi (pP Q.1 Q.2 N).1)))) (h1 := (Wd C e P Q (pP Q.1 Q.2 N).2.1 (pP Q.1 Q.2 N).2.2 R t Z)) rfl rfl rfl rfl (eg (Nat.le_of_ble_eq_true rfl) (show 25 ≤ lo by omega) (Nat.le_of_ble_eq_true rfl)) (m_parse1 (show 22 ≤ lo - 25 by omega) ht2 hl2) ?_
  rw [hq0, hqN]
  have hml := pP_len hl2 h1
  rw [hq0] at hml
  refine eR.ifc rfl false (mb_et h1) ?_
  refine eR.step 1 (F' := (9, [(0, .ref 23)], [.ref 23])) (h' := (Wd C e P Q m0 N0 R t Z)) (fun _ _ => rfl) ?_
  refine eR.call (k' := 126) (as := [.ref 23]) (rest := []) (v := some (.int (nI (bi (decide (e 11 = 1)))))) (h1 := (Wd C e P Q m0 N0 R t Z)) rfl rfl rfl rfl (eg (Nat.le_of_ble_eq_true rfl) (show 20 ≤ lo by omega) (Nat.le_of_ble_eq_true rfl)) (m_clean V.B.dk) ?_
  refine eR.ifc rfl false (mb_et (decide_eq_true h11)) ?_
  refine eR.step 4 (F' := (22, [(0, .ref 23), (1, .int (nI 1))], [.int (nI 1)])) (h' := (Wd C e P Q m0 N0 R t Z)) (fun _ _ => rfl) ?_
  refine eR.ifc rfl false rfl ?_
  refine eR.step 3 (F' := (30, [(0, .ref 23), (1, .int (nI 1))], [.int (nI (m0)), .ref 23])) (h' := (Wd C e P Q m0 N0 R t Z)) (fun _ _ => rfl) ?_
  refine eR.call (k' := 127) (as := [.ref 23, .int (nI (m0))]) (rest := []) (v := some (.int (nI (ld e N0 m0)))) (h1 := (Wd C e P Q m0 N0 R t Z)) rfl rfl rfl rfl (eg (Nat.le_of_ble_eq_true rfl) (show 24 ≤ lo by omega) (Nat.le_of_ble_eq_true rfl)) (m_lead (show 112 ≤ lo - 24 by omega) V hN3 hml) ?_
  rw [hld]
  refine eR.step 3 (F' := (39, [(0, .ref 23), (1, .int (nI 1)), (2, .int (nI (f)))], [.int (nI (f))])) (h' := (Wd C e P Q m0 N0 R t Z)) (fun _ _ => rfl) ?_
  refine eR.ifc rfl false ((nc_eq (b := 0) (by omega) (by decide)).trans (decide_eq_false (by omega))) ?_
  refine eR.step 2 (F' := (46, [(0, .ref 23), (1, .int (nI 1)), (2, .int (nI (f)))], [.int (nI (m0))])) (h' := (Wd C e P Q m0 N0 R t Z)) (fun _ _ => rfl) ?_
  refine eR.ifc rfl false ((nc_le (b := 0) (by omega) (by decide)).trans (decide_eq_false (by omega))) ?_
  refine eR.step 4 (F' := (55, [(0, .ref 23), (1, .int (nI 1)), (2, .int (nI (f)))], [.int (nI 1), .int (nI (m0)), .ref 23])) (h' := (Wd C e P Q m0 N0 R t Z)) (fun _ _ => rfl) ?_
  refine eR.nsub rfl (by omega) ?_
  refine eR.call (k' := 127) (as := [.ref 23, .int (nI (m0 - 1))]) (rest := []) (v := some (.int (nI (ld e N0 (m0 - 1))))) (h1 := (Wd C e P Q m0 N0 R t Z)) rfl rfl rfl rfl (eg (Nat.le_of_ble_eq_true rfl) (show 24 ≤ lo by omega) (Nat.le_of_ble_eq_true rfl)) (m_lead (show 112 ≤ lo - 24 by omega) V hN3 (by omega)) ?_
  rw [hld0]
  refine eR.step 3 (F' := (65, [(0, .ref 23), (1, .int (nI 1)), (2, .int (nI (f))), (3, .int (nI (p0)))], [.int (nI (p0))])) (h' := (Wd C e P Q m0 N0 R t Z)) (fun _ _ => rfl) ?_
  refine eR.ifc rfl false ((nc_eq (b := 0) (by omega) (by decide)).trans (decide_eq_false (by omega))) ?_
  refine eR.step 5 (F' := (75, [(0, .ref 23), (1, .int (nI 1)), (2, .int (nI (f))), (3, .int (nI (p0)))], [.int (nI 1), .int (nI (m0)), .int (nI (p0)), .ref 23])) (h' := (Wd C e P Q m0 N0 R t Z)) (fun _ _ => rfl) ?_
  refine eR.nsub rfl (by omega) ?_
  refine eR.call (k' := 129) (as := [.ref 23, .int (nI (p0)), .int (nI (m0 - 1))]) (rest := []) (v := some (.int (fi (fd e p0 (fun q => N0 (7 * (m0 - 1) + q)) 2 (sn e p0 - 2))))) (h1 := (Wd C e P Q m0 N0 R t Z)) rfl rfl rfl rfl (eg (Nat.le_of_ble_eq_true rfl) (show 24 ≤ lo by omega) (Nat.le_of_ble_eq_true rfl)) (m_slotOf (show 88 ≤ lo - 24 by omega) V.B.dk hD0 (fun k => Nat.lt_trans (hN3 k) (by decide)) (by omega)) ?_
  rw [hj, fi_n (by omega)]
  refine eR.step 4 (F' := (87, [(0, .ref 23), (1, .int (nI 1)), (2, .int (nI (f))), (3, .int (nI (p0))), (4, .int (nI (j)))], [.int (nI 0), .ref 23])) (h' := (Wd C e P Q m0 N0 R t Z)) (fun _ _ => rfl) ?_
  refine eR.sim rfl (F := (90, [(0, .ref 23), (1, .int (nI 1)), (2, .int (nI (f))), (3, .int (nI (p0))), (4, .int (nI (j)))], [])) (h' := (Wd C e P (Q.1, 0) m0 N0 R t Z)) (by rfl) ?_
  refine eR.step 1 (F' := (91, [(0, .ref 23), (1, .int (nI 1)), (2, .int (nI (f))), (3, .int (nI (p0))), (4, .int (nI (j)))], [.ref 23])) (h' := (Wd C e P (Q.1, 0) m0 N0 R t Z)) (fun _ _ => rfl) ?_
  refine eR.call (k' := 123) (as := [.ref 23]) (rest := []) (v := some (.int (nI (ab e P N0)))) (h1 := (Wd C e (P.1, 0) (Q.1, 0) (pP P.1 P.2 N0).2.1 (pP P.1 P.2 N0).2.2 R (tf e (ab e P N0)) Z)) rfl rfl rfl rfl (eg (Nat.le_of_ble_eq_true rfl) (show 23 ≤ lo by omega) (Nat.le_of_ble_eq_true rfl)) (m_above (show 136 ≤ lo - 23 by omega) V hN3 ht hl) ?_
  rw [hp0, hm0, hN0]
  refine eR.step 3 (F' := (98, [(0, .ref 23), (1, .int (nI 1)), (2, .int (nI (f))), (3, .int (nI (p0))), (4, .int (nI (j))), (5, .int (nI (p)))], [.int (nI (f)), .ref 23])) (h' := (Wd C e (P.1, 0) (Q.1, 0) m1 N1 R (tf e p) Z)) (fun _ _ => rfl) ?_
  refine eR.ifc rfl true ((nc_ne (b := 0) (by omega) (by decide)).trans (decide_eq_true (by omega))) ?_
  refine eR.step 2 (F' := (107, [(0, .ref 23), (1, .int (nI 1)), (2, .int (nI (f))), (3, .int (nI (p0))), (4, .int (nI (j))), (5, .int (nI (p)))], [.int (nI 2), .int (nI 0), .ref 23])) (h' := (Wd C e (P.1, 0) (Q.1, 0) m1 N1 R (tf e p) Z)) (fun _ _ => rfl) ?_
  rw [tf_0 h11 hpn]
  refine eR.call (k' := 136) (as := [.ref 23, .int (nI 0), .int (nI 2)]) (rest := []) (v := none) (h1 := (Wd C e (P.1, 0) (Q.1, 0) m1 N1 R (ri false 0 2) Z)) rfl rfl rfl rfl (eg (Nat.le_of_ble_eq_true rfl) (show 22 ≤ lo by omega) (Nat.le_of_ble_eq_true rfl)) (m_refIf (b := false) (show 21 ≤ lo - 22 by omega) (by decide)) ?_
  rw [show ri false 0 2 = 0 from rfl]
  refine eR.step 2 (F' := (114, [(0, .ref 23), (1, .int (nI 1)), (2, .int (nI (f))), (3, .int (nI (p0))), (4, .int (nI (j))), (5, .int (nI (p)))], [.int (nI 0)])) (h' := (Wd C e (P.1, 0) (Q.1, 0) m1 N1 R 0 Z)) (fun _ _ => rfl) ?_
  refine eR.ifc rfl false ((nc_ne (b := 0) (by omega) (by decide)).trans (decide_eq_false (by omega))) ?_
  refine eR.step 3 (F' := (120, [(0, .ref 23), (1, .int (nI 1)), (2, .int (nI (f))), (3, .int (nI (p0))), (4, .int (nI (j))), (5, .int (nI (p)))], [.int (nI 1), .int (nI (f)), .ref 23])) (h' := (Wd C e (P.1, 0) (Q.1, 0) m1 N1 R 0 Z)) (fun _ _ => rfl) ?_
  refine eR.icmp rfl true ((nc_ne (by omega) (by omega)).trans (decide_eq_true (by omega))) ?_
  refine eR.step 2 (F' := (129, [(0, .ref 23), (1, .int (nI 1)), (2, .int (nI (f))), (3, .int (nI (p0))), (4, .int (nI (j))), (5, .int (nI (p)))], [.int (nI 3), .int (nI 0), .ref 23])) (h' := (Wd C e (P.1, 0) (Q.1, 0) m1 N1 R 0 Z)) (fun _ _ => rfl) ?_
  refine eR.call (k' := 136) (as := [.ref 23, .int (nI 0), .int (nI 3)]) (rest := []) (v := none) (h1 := (Wd C e (P.1, 0) (Q.1, 0) m1 N1 R (ri false 0 3) Z)) rfl rfl rfl rfl (eg (Nat.le_of_ble_eq_true rfl) (show 22 ≤ lo by omega) (Nat.le_of_ble_eq_true rfl)) (m_refIf (b := false) (show 21 ≤ lo - 22 by omega) (by decide)) ?_
  rw [show ri false 0 3 = 0 from rfl]
  refine eR.step 3 (F' := (135, [(0, .ref 23), (1, .int (nI 1)), (2, .int (nI (f))), (3, .int (nI (p0))), (4, .int (nI (j))), (5, .int (nI (p)))], [.int (nI (f)), .ref 23, .ref 23])) (h' := (Wd C e (P.1, 0) (Q.1, 0) m1 N1 R 0 Z)) (fun _ _ => rfl) ?_
  have h6 := V.B.dk.1 (32 + (16 * f))
  refine eR.call (k' := 128) (as := [.ref 23, .int (nI (f))]) (rest := [.ref 23]) (v := some (.int (nI (e (32 + (16 * f)))))) (h1 := (Wd C e (P.1, 0) (Q.1, 0) m1 N1 R 0 Z)) rfl rfl rfl rfl (eg (Nat.le_of_ble_eq_true rfl) (show 21 ≤ lo by omega) (Nat.le_of_ble_eq_true rfl)) (m_kind (show 20 ≤ lo - 21 by omega) hf) ?_
  refine eR.step 1 (F' := (139, [(0, .ref 23), (1, .int (nI 1)), (2, .int (nI (f))), (3, .int (nI (p0))), (4, .int (nI (j))), (5, .int (nI (p)))], [.int (nI 2), .int (nI (e (32 + (16 * f)))), .ref 23])) (h' := (Wd C e (P.1, 0) (Q.1, 0) m1 N1 R 0 Z)) (fun _ _ => rfl) ?_
  refine eR.icmp rfl true ((nc_ne (by omega) (by omega)).trans (decide_eq_true (by omega))) ?_
  refine eR.step 2 (F' := (158, [(0, .ref 23), (1, .int (nI 1)), (2, .int (nI (f))), (3, .int (nI (p0))), (4, .int (nI (j))), (5, .int (nI (p)))], [.int (nI 4), .int (nI 0), .ref 23])) (h' := (Wd C e (P.1, 0) (Q.1, 0) m1 N1 R 0 Z)) (fun _ _ => rfl) ?_
  refine eR.call (k' := 136) (as := [.ref 23, .int (nI 0), .int (nI 4)]) (rest := []) (v := none) (h1 := (Wd C e (P.1, 0) (Q.1, 0) m1 N1 R (ri false 0 4) Z)) rfl rfl rfl rfl (eg (Nat.le_of_ble_eq_true rfl) (show 22 ≤ lo by omega) (Nat.le_of_ble_eq_true rfl)) (m_refIf (b := false) (show 21 ≤ lo - 22 by omega) (by decide)) ?_
  rw [show ri false 0 4 = 0 from rfl]
  refine eR.step 6 (F' := (170, [(0, .ref 23), (1, .int (nI 1)), (2, .int (nI (f))), (3, .int (nI (p0))), (4, .int (nI (j))), (5, .int (nI (p)))], [.int (nI 1), .int (nI (m1)), .int (nI (p)), .ref 23, .ref 23])) (h' := (Wd C e (P.1, 0) (Q.1, 0) m1 N1 R 0 Z)) (fun _ _ => rfl) ?_
  refine eR.nsub rfl (by omega) ?_
  refine eR.call (k' := 129) (as := [.ref 23, .int (nI (p)), .int (nI (m1 - 1))]) (rest := [.ref 23]) (v := some (.int (fi (fd e p (fun q => N1 (7 * (m1 - 1) + q)) 2 (sn e p - 2))))) (h1 := (Wd C e (P.1, 0) (Q.1, 0) m1 N1 R 0 Z)) rfl rfl rfl rfl (eg (Nat.le_of_ble_eq_true rfl) (show 24 ≤ lo by omega) (Nat.le_of_ble_eq_true rfl)) (m_slotOf (show 88 ≤ lo - 24 by omega) V.B.dk hD (fun k => Nat.lt_trans (hN1 k) (by decide)) (by omega)) ?_
  have h5 := fd_24 hD.2.2.1 hF
  refine eR.ifc rfl true (mc_gin hF (by omega)) ?_
  refine eR.step 3 (F' := (199, [(0, .ref 23), (1, .int (nI 1)), (2, .int (nI (f))), (3, .int (nI (p0))), (4, .int (nI (j))), (5, .int (nI (p)))], [.int (nI 1), .int (nI 1), .ref 23])) (h' := (Wd C e (P.1, 0) (Q.1, 0) m1 N1 R 0 Z)) (fun _ _ => rfl) ?_
  refine eR.call (k' := 136) (as := [.ref 23, .int (nI 1), .int (nI 1)]) (rest := []) (v := none) (h1 := (Wd C e (P.1, 0) (Q.1, 0) m1 N1 R (ri true 0 1) Z)) rfl rfl rfl rfl (eg (Nat.le_of_ble_eq_true rfl) (show 22 ≤ lo by omega) (Nat.le_of_ble_eq_true rfl)) (m_refIf (b := true) (show 21 ≤ lo - 22 by omega) (by decide)) ?_
  rw [show ri true 0 1 = 1 from rfl]
  refine eR.step 2 (F' := (206, [(0, .ref 23), (1, .int (nI 1)), (2, .int (nI (f))), (3, .int (nI (p0))), (4, .int (nI (j))), (5, .int (nI (p)))], [.int (nI 1)])) (h' := (Wd C e (P.1, 0) (Q.1, 0) m1 N1 R 1 Z)) (fun _ _ => rfl) ?_
  refine eR.ifc rfl false ((nc_eq (b := 0) (by omega) (by decide)).trans (decide_eq_false (by omega))) ?_
  refine eR.step 1 (F' := (210, [(0, .ref 23), (1, .int (nI 1)), (2, .int (nI (f))), (3, .int (nI (p0))), (4, .int (nI (j))), (5, .int (nI (p)))], [.int (nI 0)])) (h' := (Wd C e (P.1, 0) (Q.1, 0) m1 N1 R 1 Z)) (fun _ _ => rfl) ?_
  exact eR.ret rfl rfl rfl
theorem m_renameB2F {cm sm fr lo : Nat} {C : gC} {e : Nat → Nat} {P Q : gT} {m : Nat} {N : Nat → Nat} {R : gS} {t : Nat} {Z : mj_H} (hlo : 159 ≤ lo) (V : qV e) (hN : ∀ k, N k < 256) (ht : ∀ k, P.1 k < 65536) (hl : P.2 ≤ 40) (ht2 : ∀ k, Q.1 k < 65536) (hl2 : Q.2 ≤ 40) {f p p0 m1 m0 : Nat} {N1 N0 : Nat → Nat} (hq0 : (pP Q.1 Q.2 N).2.1 = m0) (hqN : (pP Q.1 Q.2 N).2.2 = N0) (hp0 : ab e P N0 = p) (hm0 : (pP P.1 P.2 N0).2.1 = m1) (hN0 : (pP P.1 P.2 N0).2.2 = N1) (hN3 : ∀ k, N0 k < 256) (h11 : e 11 = 1) (h1 : (pP Q.1 Q.2 N).1 = true) (hld : ld e N0 m0 = f) (hfn : ¬ f = 0) (hf : f < 16) (hm : 0 < m0) (hld0 : ld e N0 (m0 - 1) = p0) (hp0n : ¬ p0 = 0) (hp016 : p0 < 16) (hD0 : gD e p0) {j : Nat} (hj : fd e p0 (fun q => N0 (7 * (m0 - 1) + q)) 2 (sn e p0 - 2) = j) (hj2 : 2 ≤ j) (hj24 : j < 24) (hpn : ¬ p = 0) (hm1 : 1 ≤ m1) (hm2 : m1 ≤ 20) (hN1 : ∀ k, N1 k < 256) (hp : p < 16) (hkp : e (32 + (16 * p)) = 2) (hD : gD e p) (hf1 : ¬ f = 1) (hk : ¬ e (32 + (16 * f)) = 2) (hF : fd e p (fun q => N1 (7 * (m1 - 1) + q)) 2 (sn e p - 2) = 0) (hr : cf e 3 0 64 < rN e p) : eE mm_P cm sm (fr + 8) lo 150 [.ref 23] (Wd C e P Q m N R t Z) (.inl (some (.int (nI 0))), (Wd C e (P.1, 0) (Q.1, 0) m1 N1 R 1 Z)) := by
  refine eE.of ?_
  have htf := tf_le e p
  have h11b := V.B.dk.1 11
  refine eR.step 2 (F' := (2, [(0, .ref 23)], [.int (nI 1), .ref 23])) (h' := (Wd C e P Q m N R t Z)) (fun _ _ => rfl) ?_
  refine eR.call (k' := 124) (as := [.ref 23, .int (nI 1)]) (rest := []) (v := some (.int (nI (bi (pP Q.1 Q.2 N).1)))) (h1 := (Wd C e P Q (pP Q.1 Q.2 N).2.1 (pP Q.1 Q.2 N).2.2 R t Z)) rfl rfl rfl rfl (eg (Nat.le_of_ble_eq_true rfl) (show 25 ≤ lo by omega) (Nat.le_of_ble_eq_true rfl)) (m_parse1 (show 22 ≤ lo - 25 by omega) ht2 hl2) ?_
  rw [hq0, hqN]
  have hml := pP_len hl2 h1
  rw [hq0] at hml
  refine eR.ifc rfl false (mb_et h1) ?_
  refine eR.step 1 (F' := (9, [(0, .ref 23)], [.ref 23])) (h' := (Wd C e P Q m0 N0 R t Z)) (fun _ _ => rfl) ?_
  refine eR.call (k' := 126) (as := [.ref 23]) (rest := []) (v := some (.int (nI (bi (decide (e 11 = 1)))))) (h1 := (Wd C e P Q m0 N0 R t Z)) rfl rfl rfl rfl (eg (Nat.le_of_ble_eq_true rfl) (show 20 ≤ lo by omega) (Nat.le_of_ble_eq_true rfl)) (m_clean V.B.dk) ?_
  refine eR.ifc rfl false (mb_et (decide_eq_true h11)) ?_
  refine eR.step 4 (F' := (22, [(0, .ref 23), (1, .int (nI 1))], [.int (nI 1)])) (h' := (Wd C e P Q m0 N0 R t Z)) (fun _ _ => rfl) ?_
  refine eR.ifc rfl false rfl ?_
  refine eR.step 3 (F' := (30, [(0, .ref 23), (1, .int (nI 1))], [.int (nI (m0)), .ref 23])) (h' := (Wd C e P Q m0 N0 R t Z)) (fun _ _ => rfl) ?_
  refine eR.call (k' := 127) (as := [.ref 23, .int (nI (m0))]) (rest := []) (v := some (.int (nI (ld e N0 m0)))) (h1 := (Wd C e P Q m0 N0 R t Z)) rfl rfl rfl rfl (eg (Nat.le_of_ble_eq_true rfl) (show 24 ≤ lo by omega) (Nat.le_of_ble_eq_true rfl)) (m_lead (show 112 ≤ lo - 24 by omega) V hN3 hml) ?_
  rw [hld]
  refine eR.step 3 (F' := (39, [(0, .ref 23), (1, .int (nI 1)), (2, .int (nI (f)))], [.int (nI (f))])) (h' := (Wd C e P Q m0 N0 R t Z)) (fun _ _ => rfl) ?_
  refine eR.ifc rfl false ((nc_eq (b := 0) (by omega) (by decide)).trans (decide_eq_false (by omega))) ?_
  refine eR.step 2 (F' := (46, [(0, .ref 23), (1, .int (nI 1)), (2, .int (nI (f)))], [.int (nI (m0))])) (h' := (Wd C e P Q m0 N0 R t Z)) (fun _ _ => rfl) ?_
  refine eR.ifc rfl false ((nc_le (b := 0) (by omega) (by decide)).trans (decide_eq_false (by omega))) ?_
  refine eR.step 4 (F' := (55, [(0, .ref 23), (1, .int (nI 1)), (2, .int (nI (f)))], [.int (nI 1), .int (nI (m0)), .ref 23])) (h' := (Wd C e P Q m0 N0 R t Z)) (fun _ _ => rfl) ?_
  refine eR.nsub rfl (by omega) ?_
  refine eR.call (k' := 127) (as := [.ref 23, .int (nI (m0 - 1))]) (rest := []) (v := some (.int (nI (ld e N0 (m0 - 1))))) (h1 := (Wd C e P Q m0 N0 R t Z)) rfl rfl rfl rfl (eg (Nat.le_of_ble_eq_true rfl) (show 24 ≤ lo by omega) (Nat.le_of_ble_eq_true rfl)) (m_lead (show 112 ≤ lo - 24 by omega) V hN3 (by omega)) ?_
  rw [hld0]
  refine eR.step 3 (F' := (65, [(0, .ref 23), (1, .int (nI 1)), (2, .int (nI (f))), (3, .int (nI (p0)))], [.int (nI (p0))])) (h' := (Wd C e P Q m0 N0 R t Z)) (fun _ _ => rfl) ?_
  refine eR.ifc rfl false ((nc_eq (b := 0) (by omega) (by decide)).trans (decide_eq_false (by omega))) ?_
  refine eR.step 5 (F' := (75, [(0, .ref 23), (1, .int (nI 1)), (2, .int (nI (f))), (3, .int (nI (p0)))], [.int (nI 1), .int (nI (m0)), .int (nI (p0)), .ref 23])) (h' := (Wd C e P Q m0 N0 R t Z)) (fun _ _ => rfl) ?_
  refine eR.nsub rfl (by omega) ?_
  refine eR.call (k' := 129) (as := [.ref 23, .int (nI (p0)), .int (nI (m0 - 1))]) (rest := []) (v := some (.int (fi (fd e p0 (fun q => N0 (7 * (m0 - 1) + q)) 2 (sn e p0 - 2))))) (h1 := (Wd C e P Q m0 N0 R t Z)) rfl rfl rfl rfl (eg (Nat.le_of_ble_eq_true rfl) (show 24 ≤ lo by omega) (Nat.le_of_ble_eq_true rfl)) (m_slotOf (show 88 ≤ lo - 24 by omega) V.B.dk hD0 (fun k => Nat.lt_trans (hN3 k) (by decide)) (by omega)) ?_
  rw [hj, fi_n (by omega)]
  refine eR.step 4 (F' := (87, [(0, .ref 23), (1, .int (nI 1)), (2, .int (nI (f))), (3, .int (nI (p0))), (4, .int (nI (j)))], [.int (nI 0), .ref 23])) (h' := (Wd C e P Q m0 N0 R t Z)) (fun _ _ => rfl) ?_
  refine eR.sim rfl (F := (90, [(0, .ref 23), (1, .int (nI 1)), (2, .int (nI (f))), (3, .int (nI (p0))), (4, .int (nI (j)))], [])) (h' := (Wd C e P (Q.1, 0) m0 N0 R t Z)) (by rfl) ?_
  refine eR.step 1 (F' := (91, [(0, .ref 23), (1, .int (nI 1)), (2, .int (nI (f))), (3, .int (nI (p0))), (4, .int (nI (j)))], [.ref 23])) (h' := (Wd C e P (Q.1, 0) m0 N0 R t Z)) (fun _ _ => rfl) ?_
  refine eR.call (k' := 123) (as := [.ref 23]) (rest := []) (v := some (.int (nI (ab e P N0)))) (h1 := (Wd C e (P.1, 0) (Q.1, 0) (pP P.1 P.2 N0).2.1 (pP P.1 P.2 N0).2.2 R (tf e (ab e P N0)) Z)) rfl rfl rfl rfl (eg (Nat.le_of_ble_eq_true rfl) (show 23 ≤ lo by omega) (Nat.le_of_ble_eq_true rfl)) (m_above (show 136 ≤ lo - 23 by omega) V hN3 ht hl) ?_
  rw [hp0, hm0, hN0]
  refine eR.step 3 (F' := (98, [(0, .ref 23), (1, .int (nI 1)), (2, .int (nI (f))), (3, .int (nI (p0))), (4, .int (nI (j))), (5, .int (nI (p)))], [.int (nI (f)), .ref 23])) (h' := (Wd C e (P.1, 0) (Q.1, 0) m1 N1 R (tf e p) Z)) (fun _ _ => rfl) ?_
  refine eR.ifc rfl true ((nc_ne (b := 0) (by omega) (by decide)).trans (decide_eq_true (by omega))) ?_
  refine eR.step 2 (F' := (107, [(0, .ref 23), (1, .int (nI 1)), (2, .int (nI (f))), (3, .int (nI (p0))), (4, .int (nI (j))), (5, .int (nI (p)))], [.int (nI 2), .int (nI 0), .ref 23])) (h' := (Wd C e (P.1, 0) (Q.1, 0) m1 N1 R (tf e p) Z)) (fun _ _ => rfl) ?_
  rw [tf_0 h11 hpn]
  refine eR.call (k' := 136) (as := [.ref 23, .int (nI 0), .int (nI 2)]) (rest := []) (v := none) (h1 := (Wd C e (P.1, 0) (Q.1, 0) m1 N1 R (ri false 0 2) Z)) rfl rfl rfl rfl (eg (Nat.le_of_ble_eq_true rfl) (show 22 ≤ lo by omega) (Nat.le_of_ble_eq_true rfl)) (m_refIf (b := false) (show 21 ≤ lo - 22 by omega) (by decide)) ?_
  rw [show ri false 0 2 = 0 from rfl]
  refine eR.step 2 (F' := (114, [(0, .ref 23), (1, .int (nI 1)), (2, .int (nI (f))), (3, .int (nI (p0))), (4, .int (nI (j))), (5, .int (nI (p)))], [.int (nI 0)])) (h' := (Wd C e (P.1, 0) (Q.1, 0) m1 N1 R 0 Z)) (fun _ _ => rfl) ?_
  refine eR.ifc rfl false ((nc_ne (b := 0) (by omega) (by decide)).trans (decide_eq_false (by omega))) ?_
  refine eR.step 3 (F' := (120, [(0, .ref 23), (1, .int (nI 1)), (2, .int (nI (f))), (3, .int (nI (p0))), (4, .int (nI (j))), (5, .int (nI (p)))], [.int (nI 1), .int (nI (f)), .ref 23])) (h' := (Wd C e (P.1, 0) (Q.1, 0) m1 N1 R 0 Z)) (fun _ _ => rfl) ?_
  refine eR.icmp rfl true ((nc_ne (by omega) (by omega)).trans (decide_eq_true (by omega))) ?_
  refine eR.step 2 (F' := (129, [(0, .ref 23), (1, .int (nI 1)), (2, .int (nI (f))), (3, .int (nI (p0))), (4, .int (nI (j))), (5, .int (nI (p)))], [.int (nI 3), .int (nI 0), .ref 23])) (h' := (Wd C e (P.1, 0) (Q.1, 0) m1 N1 R 0 Z)) (fun _ _ => rfl) ?_
  refine eR.call (k' := 136) (as := [.ref 23, .int (nI 0), .int (nI 3)]) (rest := []) (v := none) (h1 := (Wd C e (P.1, 0) (Q.1, 0) m1 N1 R (ri false 0 3) Z)) rfl rfl rfl rfl (eg (Nat.le_of_ble_eq_true rfl) (show 22 ≤ lo by omega) (Nat.le_of_ble_eq_true rfl)) (m_refIf (b := false) (show 21 ≤ lo - 22 by omega) (by decide)) ?_
  rw [show ri false 0 3 = 0 from rfl]
  refine eR.step 3 (F' := (135, [(0, .ref 23), (1, .int (nI 1)), (2, .int (nI (f))), (3, .int (nI (p0))), (4, .int (nI (j))), (5, .int (nI (p)))], [.int (nI (f)), .ref 23, .ref 23])) (h' := (Wd C e (P.1, 0) (Q.1, 0) m1 N1 R 0 Z)) (fun _ _ => rfl) ?_
  have h6 := V.B.dk.1 (32 + (16 * f))
  refine eR.call (k' := 128) (as := [.ref 23, .int (nI (f))]) (rest := [.ref 23]) (v := some (.int (nI (e (32 + (16 * f)))))) (h1 := (Wd C e (P.1, 0) (Q.1, 0) m1 N1 R 0 Z)) rfl rfl rfl rfl (eg (Nat.le_of_ble_eq_true rfl) (show 21 ≤ lo by omega) (Nat.le_of_ble_eq_true rfl)) (m_kind (show 20 ≤ lo - 21 by omega) hf) ?_
  refine eR.step 1 (F' := (139, [(0, .ref 23), (1, .int (nI 1)), (2, .int (nI (f))), (3, .int (nI (p0))), (4, .int (nI (j))), (5, .int (nI (p)))], [.int (nI 2), .int (nI (e (32 + (16 * f)))), .ref 23])) (h' := (Wd C e (P.1, 0) (Q.1, 0) m1 N1 R 0 Z)) (fun _ _ => rfl) ?_
  refine eR.icmp rfl true ((nc_ne (by omega) (by omega)).trans (decide_eq_true (by omega))) ?_
  refine eR.step 2 (F' := (158, [(0, .ref 23), (1, .int (nI 1)), (2, .int (nI (f))), (3, .int (nI (p0))), (4, .int (nI (j))), (5, .int (nI (p)))], [.int (nI 4), .int (nI 0), .ref 23])) (h' := (Wd C e (P.1, 0) (Q.1, 0) m1 N1 R 0 Z)) (fun _ _ => rfl) ?_
  refine eR.call (k' := 136) (as := [.ref 23, .int (nI 0), .int (nI 4)]) (rest := []) (v := none) (h1 := (Wd C e (P.1, 0) (Q.1, 0) m1 N1 R (ri false 0 4) Z)) rfl rfl rfl rfl (eg (Nat.le_of_ble_eq_true rfl) (show 22 ≤ lo by omega) (Nat.le_of_ble_eq_true rfl)) (m_refIf (b := false) (show 21 ≤ lo - 22 by omega) (by decide)) ?_
  rw [show ri false 0 4 = 0 from rfl]
  refine eR.step 6 (F' := (170, [(0, .ref 23), (1, .int (nI 1)), (2, .int (nI (f))), (3, .int (nI (p0))), (4, .int (nI (j))), (5, .int (nI (p)))], [.int (nI 1), .int (nI (m1)), .int (nI (p)), .ref 23, .ref 23])) (h' := (Wd C e (P.1, 0) (Q.1, 0) m1 N1 R 0 Z)) (fun _ _ => rfl) ?_
  refine eR.nsub rfl (by omega) ?_
  refine eR.call (k' := 129) (as := [.ref 23, .int (nI (p)), .int (nI (m1 - 1))]) (rest := [.ref 23]) (v := some (.int (fi (fd e p (fun q => N1 (7 * (m1 - 1) + q)) 2 (sn e p - 2))))) (h1 := (Wd C e (P.1, 0) (Q.1, 0) m1 N1 R 0 Z)) rfl rfl rfl rfl (eg (Nat.le_of_ble_eq_true rfl) (show 24 ≤ lo by omega) (Nat.le_of_ble_eq_true rfl)) (m_slotOf (show 88 ≤ lo - 24 by omega) V.B.dk hD (fun k => Nat.lt_trans (hN1 k) (by decide)) (by omega)) ?_
  have hB3 := cf_b e 3 64 0
  have hR1 := rN_le e p
  refine eR.ifc rfl false (mc_gi0 hF) ?_
  refine eR.step 2 (F' := (180, [(0, .ref 23), (1, .int (nI 1)), (2, .int (nI (f))), (3, .int (nI (p0))), (4, .int (nI (j))), (5, .int (nI (p)))], [.int (nI (p)), .ref 23, .ref 23])) (h' := (Wd C e (P.1, 0) (Q.1, 0) m1 N1 R 0 Z)) (fun _ _ => rfl) ?_
  refine eR.call (k' := 134) (as := [.ref 23, .int (nI (p))]) (rest := [.ref 23]) (v := some (.int (nI (rN e p)))) (h1 := (Wd C e (P.1, 0) (Q.1, 0) m1 N1 R 0 Z)) rfl rfl rfl rfl (eg (Nat.le_of_ble_eq_true rfl) (show 21 ≤ lo by omega) (Nat.le_of_ble_eq_true rfl)) (m_room (show 110 ≤ lo - 21 by omega) V.B.dk hD) ?_
  refine eR.step 3 (F' := (187, [(0, .ref 23), (1, .int (nI 1)), (2, .int (nI (f))), (3, .int (nI (p0))), (4, .int (nI (j))), (5, .int (nI (p)))], [.int (nI 64), .int (nI 3), .ref 23, .int (nI (rN e p)), .ref 23])) (h' := (Wd C e (P.1, 0) (Q.1, 0) m1 N1 R 0 Z)) (fun _ _ => rfl) ?_
  refine eR.call (k' := 133) (as := [.ref 23, .int (nI 3), .int (nI 64)]) (rest := [.int (nI (rN e p)), .ref 23]) (v := some (.int (nI (cf e 3 0 64)))) (h1 := (Wd C e (P.1, 0) (Q.1, 0) m1 N1 R 0 Z)) rfl rfl rfl rfl (eg (Nat.le_of_ble_eq_true rfl) (show 24 ≤ lo by omega) (Nat.le_of_ble_eq_true rfl)) (m_free (show 22 ≤ lo - 24 by omega) V.B.dk (by decide) (by decide)) ?_
  refine eR.icmp rfl false ((nc_le (by omega) (by omega)).trans (decide_eq_false (by omega))) ?_
  refine eR.step 3 (F' := (199, [(0, .ref 23), (1, .int (nI 1)), (2, .int (nI (f))), (3, .int (nI (p0))), (4, .int (nI (j))), (5, .int (nI (p)))], [.int (nI 1), .int (nI 1), .ref 23])) (h' := (Wd C e (P.1, 0) (Q.1, 0) m1 N1 R 0 Z)) (fun _ _ => rfl) ?_
  refine eR.call (k' := 136) (as := [.ref 23, .int (nI 1), .int (nI 1)]) (rest := []) (v := none) (h1 := (Wd C e (P.1, 0) (Q.1, 0) m1 N1 R (ri true 0 1) Z)) rfl rfl rfl rfl (eg (Nat.le_of_ble_eq_true rfl) (show 22 ≤ lo by omega) (Nat.le_of_ble_eq_true rfl)) (m_refIf (b := true) (show 21 ≤ lo - 22 by omega) (by decide)) ?_
  rw [show ri true 0 1 = 1 from rfl]
  refine eR.step 2 (F' := (206, [(0, .ref 23), (1, .int (nI 1)), (2, .int (nI (f))), (3, .int (nI (p0))), (4, .int (nI (j))), (5, .int (nI (p)))], [.int (nI 1)])) (h' := (Wd C e (P.1, 0) (Q.1, 0) m1 N1 R 1 Z)) (fun _ _ => rfl) ?_
  refine eR.ifc rfl false ((nc_eq (b := 0) (by omega) (by decide)).trans (decide_eq_false (by omega))) ?_
  refine eR.step 1 (F' := (210, [(0, .ref 23), (1, .int (nI 1)), (2, .int (nI (f))), (3, .int (nI (p0))), (4, .int (nI (j))), (5, .int (nI (p)))], [.int (nI 0)])) (h' := (Wd C e (P.1, 0) (Q.1, 0) m1 N1 R 1 Z)) (fun _ _ => rfl) ?_
  exact eR.ret rfl rfl rfl
theorem m_renameF {cm sm fr lo : Nat} {C : gC} {e : Nat → Nat} {P Q : gT} {m : Nat} {N : Nat → Nat} {R : gS} {t : Nat} {Z : mj_H} (hlo : 159 ≤ lo) (V : qV e) (hN : ∀ k, N k < 256) (ht : ∀ k, P.1 k < 65536) (hl : P.2 ≤ 40) (ht2 : ∀ k, Q.1 k < 65536) (hl2 : Q.2 ≤ 40) {f p p0 m1 m0 : Nat} {N1 N0 : Nat → Nat} (hq0 : (pP Q.1 Q.2 N).2.1 = m0) (hqN : (pP Q.1 Q.2 N).2.2 = N0) (hp0 : ab e P N0 = p) (hm0 : (pP P.1 P.2 N0).2.1 = m1) (hN0 : (pP P.1 P.2 N0).2.2 = N1) (hN3 : ∀ k, N0 k < 256) (h11 : e 11 = 1) (h1 : (pP Q.1 Q.2 N).1 = true) (hld : ld e N0 m0 = f) (hfn : ¬ f = 0) (hf : f < 16) (hm : 0 < m0) (hld0 : ld e N0 (m0 - 1) = p0) (hp0n : ¬ p0 = 0) (hp016 : p0 < 16) (hD0 : gD e p0) {j : Nat} (hj : fd e p0 (fun q => N0 (7 * (m0 - 1) + q)) 2 (sn e p0 - 2) = j) (hj2 : 2 ≤ j) (hj24 : j < 24) (hpn : ¬ p = 0) (hm1 : 1 ≤ m1) (hm2 : m1 ≤ 20) (hN1 : ∀ k, N1 k < 256) (hp : p < 16) (hkp : e (32 + (16 * p)) = 2) (hD : gD e p) (hf1 : ¬ f = 1) (hk : ¬ e (32 + (16 * f)) = 2) (hF : fd e p (fun q => N1 (7 * (m1 - 1) + q)) 2 (sn e p - 2) = 0) (hr : ¬ cf e 3 0 64 < rN e p) (hn : nsl e p ≠ 0) (hc2 : bw e p (nsl e p / 4) (nsl e p / 4) ≤ cf e 3 9 55) (hdk : dk (rA e p f (fun q => N1 (7 * (m1 - 1) + q)))) (gh : gD (rA e p f (fun q => N1 (7 * (m1 - 1) + q))) p0) (ck : (cz (rA e p f (fun q => N1 (7 * (m1 - 1) + q))) (sa (rA e p f (fun q => N1 (7 * (m1 - 1) + q))) p0 j) 8) (32 + (16 * f)) = e (32 + (16 * f)))  : eE mm_P cm sm (fr + 8) lo 150 [.ref 23] (Wd C e P Q m N R t Z) (.inl (some (.int (nI (f)))), (Wd C (cz (rA e p f (fun q => N1 (7 * (m1 - 1) + q))) (sa (rA e p f (fun q => N1 (7 * (m1 - 1) + q))) p0 j) 8) (P.1, 0) (Q.1, 0) m1 N1 R 0 Z)) := by
  refine eE.of ?_
  have htf := tf_le e p
  have h11b := V.B.dk.1 11
  refine eR.step 2 (F' := (2, [(0, .ref 23)], [.int (nI 1), .ref 23])) (h' := (Wd C e P Q m N R t Z)) (fun _ _ => rfl) ?_
  refine eR.call (k' := 124) (as := [.ref 23, .int (nI 1)]) (rest := []) (v := some (.int (nI (bi (pP Q.1 Q.2 N).1)))) (h1 := (Wd C e P Q (pP Q.1 Q.2 N).2.1 (pP Q.1 Q.2 N).2.2 R t Z)) rfl rfl rfl rfl (eg (Nat.le_of_ble_eq_true rfl) (show 25 ≤ lo by omega) (Nat.le_of_ble_eq_true rfl)) (m_parse1 (show 22 ≤ lo - 25 by omega) ht2 hl2) ?_
  rw [hq0, hqN]
  have hml := pP_len hl2 h1
  rw [hq0] at hml
  refine eR.ifc rfl false (mb_et h1) ?_
  refine eR.step 1 (F' := (9, [(0, .ref 23)], [.ref 23])) (h' := (Wd C e P Q m0 N0 R t Z)) (fun _ _ => rfl) ?_
  refine eR.call (k' := 126) (as := [.ref 23]) (rest := []) (v := some (.int (nI (bi (decide (e 11 = 1)))))) (h1 := (Wd C e P Q m0 N0 R t Z)) rfl rfl rfl rfl (eg (Nat.le_of_ble_eq_true rfl) (show 20 ≤ lo by omega) (Nat.le_of_ble_eq_true rfl)) (m_clean V.B.dk) ?_
  refine eR.ifc rfl false (mb_et (decide_eq_true h11)) ?_
  refine eR.step 4 (F' := (22, [(0, .ref 23), (1, .int (nI 1))], [.int (nI 1)])) (h' := (Wd C e P Q m0 N0 R t Z)) (fun _ _ => rfl) ?_
  refine eR.ifc rfl false rfl ?_
  refine eR.step 3 (F' := (30, [(0, .ref 23), (1, .int (nI 1))], [.int (nI (m0)), .ref 23])) (h' := (Wd C e P Q m0 N0 R t Z)) (fun _ _ => rfl) ?_
  refine eR.call (k' := 127) (as := [.ref 23, .int (nI (m0))]) (rest := []) (v := some (.int (nI (ld e N0 m0)))) (h1 := (Wd C e P Q m0 N0 R t Z)) rfl rfl rfl rfl (eg (Nat.le_of_ble_eq_true rfl) (show 24 ≤ lo by omega) (Nat.le_of_ble_eq_true rfl)) (m_lead (show 112 ≤ lo - 24 by omega) V hN3 hml) ?_
  rw [hld]
  refine eR.step 3 (F' := (39, [(0, .ref 23), (1, .int (nI 1)), (2, .int (nI (f)))], [.int (nI (f))])) (h' := (Wd C e P Q m0 N0 R t Z)) (fun _ _ => rfl) ?_
  refine eR.ifc rfl false ((nc_eq (b := 0) (by omega) (by decide)).trans (decide_eq_false (by omega))) ?_
  refine eR.step 2 (F' := (46, [(0, .ref 23), (1, .int (nI 1)), (2, .int (nI (f)))], [.int (nI (m0))])) (h' := (Wd C e P Q m0 N0 R t Z)) (fun _ _ => rfl) ?_
  refine eR.ifc rfl false ((nc_le (b := 0) (by omega) (by decide)).trans (decide_eq_false (by omega))) ?_
  refine eR.step 4 (F' := (55, [(0, .ref 23), (1, .int (nI 1)), (2, .int (nI (f)))], [.int (nI 1), .int (nI (m0)), .ref 23])) (h' := (Wd C e P Q m0 N0 R t Z)) (fun _ _ => rfl) ?_
  refine eR.nsub rfl (by omega) ?_
  refine eR.call (k' := 127) (as := [.ref 23, .int (nI (m0 - 1))]) (rest := []) (v := some (.int (nI (ld e N0 (m0 - 1))))) (h1 := (Wd C e P Q m0 N0 R t Z)) rfl rfl rfl rfl (eg (Nat.le_of_ble_eq_true rfl) (show 24 ≤ lo by omega) (Nat.le_of_ble_eq_true rfl)) (m_lead (show 112 ≤ lo - 24 by omega) V hN3 (by omega)) ?_
  rw [hld0]
  refine eR.step 3 (F' := (65, [(0, .ref 23), (1, .int (nI 1)), (2, .int (nI (f))), (3, .int (nI (p0)))], [.int (nI (p0))])) (h' := (Wd C e P Q m0 N0 R t Z)) (fun _ _ => rfl) ?_
  refine eR.ifc rfl false ((nc_eq (b := 0) (by omega) (by decide)).trans (decide_eq_false (by omega))) ?_
  refine eR.step 5 (F' := (75, [(0, .ref 23), (1, .int (nI 1)), (2, .int (nI (f))), (3, .int (nI (p0)))], [.int (nI 1), .int (nI (m0)), .int (nI (p0)), .ref 23])) (h' := (Wd C e P Q m0 N0 R t Z)) (fun _ _ => rfl) ?_
  refine eR.nsub rfl (by omega) ?_
  refine eR.call (k' := 129) (as := [.ref 23, .int (nI (p0)), .int (nI (m0 - 1))]) (rest := []) (v := some (.int (fi (fd e p0 (fun q => N0 (7 * (m0 - 1) + q)) 2 (sn e p0 - 2))))) (h1 := (Wd C e P Q m0 N0 R t Z)) rfl rfl rfl rfl (eg (Nat.le_of_ble_eq_true rfl) (show 24 ≤ lo by omega) (Nat.le_of_ble_eq_true rfl)) (m_slotOf (show 88 ≤ lo - 24 by omega) V.B.dk hD0 (fun k => Nat.lt_trans (hN3 k) (by decide)) (by omega)) ?_
  rw [hj, fi_n (by omega)]
  refine eR.step 4 (F' := (87, [(0, .ref 23), (1, .int (nI 1)), (2, .int (nI (f))), (3, .int (nI (p0))), (4, .int (nI (j)))], [.int (nI 0), .ref 23])) (h' := (Wd C e P Q m0 N0 R t Z)) (fun _ _ => rfl) ?_
  refine eR.sim rfl (F := (90, [(0, .ref 23), (1, .int (nI 1)), (2, .int (nI (f))), (3, .int (nI (p0))), (4, .int (nI (j)))], [])) (h' := (Wd C e P (Q.1, 0) m0 N0 R t Z)) (by rfl) ?_
  refine eR.step 1 (F' := (91, [(0, .ref 23), (1, .int (nI 1)), (2, .int (nI (f))), (3, .int (nI (p0))), (4, .int (nI (j)))], [.ref 23])) (h' := (Wd C e P (Q.1, 0) m0 N0 R t Z)) (fun _ _ => rfl) ?_
  refine eR.call (k' := 123) (as := [.ref 23]) (rest := []) (v := some (.int (nI (ab e P N0)))) (h1 := (Wd C e (P.1, 0) (Q.1, 0) (pP P.1 P.2 N0).2.1 (pP P.1 P.2 N0).2.2 R (tf e (ab e P N0)) Z)) rfl rfl rfl rfl (eg (Nat.le_of_ble_eq_true rfl) (show 23 ≤ lo by omega) (Nat.le_of_ble_eq_true rfl)) (m_above (show 136 ≤ lo - 23 by omega) V hN3 ht hl) ?_
  rw [hp0, hm0, hN0]
  refine eR.step 3 (F' := (98, [(0, .ref 23), (1, .int (nI 1)), (2, .int (nI (f))), (3, .int (nI (p0))), (4, .int (nI (j))), (5, .int (nI (p)))], [.int (nI (f)), .ref 23])) (h' := (Wd C e (P.1, 0) (Q.1, 0) m1 N1 R (tf e p) Z)) (fun _ _ => rfl) ?_
  refine eR.ifc rfl true ((nc_ne (b := 0) (by omega) (by decide)).trans (decide_eq_true (by omega))) ?_
  refine eR.step 2 (F' := (107, [(0, .ref 23), (1, .int (nI 1)), (2, .int (nI (f))), (3, .int (nI (p0))), (4, .int (nI (j))), (5, .int (nI (p)))], [.int (nI 2), .int (nI 0), .ref 23])) (h' := (Wd C e (P.1, 0) (Q.1, 0) m1 N1 R (tf e p) Z)) (fun _ _ => rfl) ?_
  rw [tf_0 h11 hpn]
  refine eR.call (k' := 136) (as := [.ref 23, .int (nI 0), .int (nI 2)]) (rest := []) (v := none) (h1 := (Wd C e (P.1, 0) (Q.1, 0) m1 N1 R (ri false 0 2) Z)) rfl rfl rfl rfl (eg (Nat.le_of_ble_eq_true rfl) (show 22 ≤ lo by omega) (Nat.le_of_ble_eq_true rfl)) (m_refIf (b := false) (show 21 ≤ lo - 22 by omega) (by decide)) ?_
  rw [show ri false 0 2 = 0 from rfl]
  refine eR.step 2 (F' := (114, [(0, .ref 23), (1, .int (nI 1)), (2, .int (nI (f))), (3, .int (nI (p0))), (4, .int (nI (j))), (5, .int (nI (p)))], [.int (nI 0)])) (h' := (Wd C e (P.1, 0) (Q.1, 0) m1 N1 R 0 Z)) (fun _ _ => rfl) ?_
  refine eR.ifc rfl false ((nc_ne (b := 0) (by omega) (by decide)).trans (decide_eq_false (by omega))) ?_
  refine eR.step 3 (F' := (120, [(0, .ref 23), (1, .int (nI 1)), (2, .int (nI (f))), (3, .int (nI (p0))), (4, .int (nI (j))), (5, .int (nI (p)))], [.int (nI 1), .int (nI (f)), .ref 23])) (h' := (Wd C e (P.1, 0) (Q.1, 0) m1 N1 R 0 Z)) (fun _ _ => rfl) ?_
  refine eR.icmp rfl true ((nc_ne (by omega) (by omega)).trans (decide_eq_true (by omega))) ?_
  refine eR.step 2 (F' := (129, [(0, .ref 23), (1, .int (nI 1)), (2, .int (nI (f))), (3, .int (nI (p0))), (4, .int (nI (j))), (5, .int (nI (p)))], [.int (nI 3), .int (nI 0), .ref 23])) (h' := (Wd C e (P.1, 0) (Q.1, 0) m1 N1 R 0 Z)) (fun _ _ => rfl) ?_
  refine eR.call (k' := 136) (as := [.ref 23, .int (nI 0), .int (nI 3)]) (rest := []) (v := none) (h1 := (Wd C e (P.1, 0) (Q.1, 0) m1 N1 R (ri false 0 3) Z)) rfl rfl rfl rfl (eg (Nat.le_of_ble_eq_true rfl) (show 22 ≤ lo by omega) (Nat.le_of_ble_eq_true rfl)) (m_refIf (b := false) (show 21 ≤ lo - 22 by omega) (by decide)) ?_
  rw [show ri false 0 3 = 0 from rfl]
  refine eR.step 3 (F' := (135, [(0, .ref 23), (1, .int (nI 1)), (2, .int (nI (f))), (3, .int (nI (p0))), (4, .int (nI (j))), (5, .int (nI (p)))], [.int (nI (f)), .ref 23, .ref 23])) (h' := (Wd C e (P.1, 0) (Q.1, 0) m1 N1 R 0 Z)) (fun _ _ => rfl) ?_
  have h6 := V.B.dk.1 (32 + (16 * f))
  refine eR.call (k' := 128) (as := [.ref 23, .int (nI (f))]) (rest := [.ref 23]) (v := some (.int (nI (e (32 + (16 * f)))))) (h1 := (Wd C e (P.1, 0) (Q.1, 0) m1 N1 R 0 Z)) rfl rfl rfl rfl (eg (Nat.le_of_ble_eq_true rfl) (show 21 ≤ lo by omega) (Nat.le_of_ble_eq_true rfl)) (m_kind (show 20 ≤ lo - 21 by omega) hf) ?_
  refine eR.step 1 (F' := (139, [(0, .ref 23), (1, .int (nI 1)), (2, .int (nI (f))), (3, .int (nI (p0))), (4, .int (nI (j))), (5, .int (nI (p)))], [.int (nI 2), .int (nI (e (32 + (16 * f)))), .ref 23])) (h' := (Wd C e (P.1, 0) (Q.1, 0) m1 N1 R 0 Z)) (fun _ _ => rfl) ?_
  refine eR.icmp rfl true ((nc_ne (by omega) (by omega)).trans (decide_eq_true (by omega))) ?_
  refine eR.step 2 (F' := (158, [(0, .ref 23), (1, .int (nI 1)), (2, .int (nI (f))), (3, .int (nI (p0))), (4, .int (nI (j))), (5, .int (nI (p)))], [.int (nI 4), .int (nI 0), .ref 23])) (h' := (Wd C e (P.1, 0) (Q.1, 0) m1 N1 R 0 Z)) (fun _ _ => rfl) ?_
  refine eR.call (k' := 136) (as := [.ref 23, .int (nI 0), .int (nI 4)]) (rest := []) (v := none) (h1 := (Wd C e (P.1, 0) (Q.1, 0) m1 N1 R (ri false 0 4) Z)) rfl rfl rfl rfl (eg (Nat.le_of_ble_eq_true rfl) (show 22 ≤ lo by omega) (Nat.le_of_ble_eq_true rfl)) (m_refIf (b := false) (show 21 ≤ lo - 22 by omega) (by decide)) ?_
  rw [show ri false 0 4 = 0 from rfl]
  refine eR.step 6 (F' := (170, [(0, .ref 23), (1, .int (nI 1)), (2, .int (nI (f))), (3, .int (nI (p0))), (4, .int (nI (j))), (5, .int (nI (p)))], [.int (nI 1), .int (nI (m1)), .int (nI (p)), .ref 23, .ref 23])) (h' := (Wd C e (P.1, 0) (Q.1, 0) m1 N1 R 0 Z)) (fun _ _ => rfl) ?_
  refine eR.nsub rfl (by omega) ?_
  refine eR.call (k' := 129) (as := [.ref 23, .int (nI (p)), .int (nI (m1 - 1))]) (rest := [.ref 23]) (v := some (.int (fi (fd e p (fun q => N1 (7 * (m1 - 1) + q)) 2 (sn e p - 2))))) (h1 := (Wd C e (P.1, 0) (Q.1, 0) m1 N1 R 0 Z)) rfl rfl rfl rfl (eg (Nat.le_of_ble_eq_true rfl) (show 24 ≤ lo by omega) (Nat.le_of_ble_eq_true rfl)) (m_slotOf (show 88 ≤ lo - 24 by omega) V.B.dk hD (fun k => Nat.lt_trans (hN1 k) (by decide)) (by omega)) ?_
  have hB3 := cf_b e 3 64 0
  have hR1 := rN_le e p
  refine eR.ifc rfl false (mc_gi0 hF) ?_
  refine eR.step 2 (F' := (180, [(0, .ref 23), (1, .int (nI 1)), (2, .int (nI (f))), (3, .int (nI (p0))), (4, .int (nI (j))), (5, .int (nI (p)))], [.int (nI (p)), .ref 23, .ref 23])) (h' := (Wd C e (P.1, 0) (Q.1, 0) m1 N1 R 0 Z)) (fun _ _ => rfl) ?_
  refine eR.call (k' := 134) (as := [.ref 23, .int (nI (p))]) (rest := [.ref 23]) (v := some (.int (nI (rN e p)))) (h1 := (Wd C e (P.1, 0) (Q.1, 0) m1 N1 R 0 Z)) rfl rfl rfl rfl (eg (Nat.le_of_ble_eq_true rfl) (show 21 ≤ lo by omega) (Nat.le_of_ble_eq_true rfl)) (m_room (show 110 ≤ lo - 21 by omega) V.B.dk hD) ?_
  refine eR.step 3 (F' := (187, [(0, .ref 23), (1, .int (nI 1)), (2, .int (nI (f))), (3, .int (nI (p0))), (4, .int (nI (j))), (5, .int (nI (p)))], [.int (nI 64), .int (nI 3), .ref 23, .int (nI (rN e p)), .ref 23])) (h' := (Wd C e (P.1, 0) (Q.1, 0) m1 N1 R 0 Z)) (fun _ _ => rfl) ?_
  refine eR.call (k' := 133) (as := [.ref 23, .int (nI 3), .int (nI 64)]) (rest := [.int (nI (rN e p)), .ref 23]) (v := some (.int (nI (cf e 3 0 64)))) (h1 := (Wd C e (P.1, 0) (Q.1, 0) m1 N1 R 0 Z)) rfl rfl rfl rfl (eg (Nat.le_of_ble_eq_true rfl) (show 24 ≤ lo by omega) (Nat.le_of_ble_eq_true rfl)) (m_free (show 22 ≤ lo - 24 by omega) V.B.dk (by decide) (by decide)) ?_
  refine eR.icmp rfl true ((nc_le (by omega) (by omega)).trans (decide_eq_true (by omega))) ?_
  refine eR.step 2 (F' := (199, [(0, .ref 23), (1, .int (nI 1)), (2, .int (nI (f))), (3, .int (nI (p0))), (4, .int (nI (j))), (5, .int (nI (p)))], [.int (nI 1), .int (nI 0), .ref 23])) (h' := (Wd C e (P.1, 0) (Q.1, 0) m1 N1 R 0 Z)) (fun _ _ => rfl) ?_
  refine eR.call (k' := 136) (as := [.ref 23, .int (nI 0), .int (nI 1)]) (rest := []) (v := none) (h1 := (Wd C e (P.1, 0) (Q.1, 0) m1 N1 R (ri false 0 1) Z)) rfl rfl rfl rfl (eg (Nat.le_of_ble_eq_true rfl) (show 22 ≤ lo by omega) (Nat.le_of_ble_eq_true rfl)) (m_refIf (b := false) (show 21 ≤ lo - 22 by omega) (by decide)) ?_
  rw [show ri false 0 1 = 0 from rfl]
  refine eR.step 2 (F' := (206, [(0, .ref 23), (1, .int (nI 1)), (2, .int (nI (f))), (3, .int (nI (p0))), (4, .int (nI (j))), (5, .int (nI (p)))], [.int (nI 0)])) (h' := (Wd C e (P.1, 0) (Q.1, 0) m1 N1 R 0 Z)) (fun _ _ => rfl) ?_
  refine eR.ifc rfl true ((nc_eq (b := 0) (by omega) (by decide)).trans (decide_eq_true (by omega))) ?_
  refine eR.step 3 (F' := (215, [(0, .ref 23), (1, .int (nI 1)), (2, .int (nI (f))), (3, .int (nI (p0))), (4, .int (nI (j))), (5, .int (nI (p)))], [.int (nI (f)), .int (nI (p)), .ref 23])) (h' := (Wd C e (P.1, 0) (Q.1, 0) m1 N1 R 0 Z)) (fun _ _ => rfl) ?_
  refine eR.call (k' := 138) (as := [.ref 23, .int (nI (p)), .int (nI (f))]) (rest := []) (v := none) (h1 := (Wd C (rA e p f (fun q => N1 (7 * (m1 - 1) + q))) (P.1, 0) (Q.1, 0) m1 N1 R 0 Z)) rfl rfl rfl rfl (eg (Nat.le_of_ble_eq_true rfl) (show 25 ≤ lo by omega) (Nat.le_of_ble_eq_true rfl)) (m_addS (show 110 ≤ lo - 25 by omega) (V.E h11) hN1 hm1 hm2 hp hkp (by omega) hn hc2) ?_
  refine eR.step 3 (F' := (222, [(0, .ref 23), (1, .int (nI 1)), (2, .int (nI (f))), (3, .int (nI (p0))), (4, .int (nI (j))), (5, .int (nI (p)))], [.int (nI (j)), .int (nI (p0)), .ref 23])) (h' := (Wd C (rA e p f (fun q => N1 (7 * (m1 - 1) + q))) (P.1, 0) (Q.1, 0) m1 N1 R 0 Z)) (fun _ _ => rfl) ?_
  refine eR.call (k' := 144) (as := [.ref 23, .int (nI (p0)), .int (nI (j))]) (rest := []) (v := none) (h1 := (Wd C (cz (rA e p f (fun q => N1 (7 * (m1 - 1) + q))) (sa (rA e p f (fun q => N1 (7 * (m1 - 1) + q))) p0 j) 8) (P.1, 0) (Q.1, 0) m1 N1 R 0 Z)) rfl rfl rfl rfl (eg (Nat.le_of_ble_eq_true rfl) (show 24 ≤ lo by omega) (Nat.le_of_ble_eq_true rfl)) (m_clr (show 88 ≤ lo - 24 by omega) hdk gh hj24) ?_
  refine eR.step 2 (F' := (227, [(0, .ref 23), (1, .int (nI 1)), (2, .int (nI (f))), (3, .int (nI (p0))), (4, .int (nI (j))), (5, .int (nI (p)))], [.int (nI (f)), .ref 23])) (h' := (Wd C (cz (rA e p f (fun q => N1 (7 * (m1 - 1) + q))) (sa (rA e p f (fun q => N1 (7 * (m1 - 1) + q))) p0 j) 8) (P.1, 0) (Q.1, 0) m1 N1 R 0 Z)) (fun _ _ => rfl) ?_
  refine eR.call (k' := 128) (as := [.ref 23, .int (nI (f))]) (rest := []) (v := some (.int (nI ((cz (rA e p f (fun q => N1 (7 * (m1 - 1) + q))) (sa (rA e p f (fun q => N1 (7 * (m1 - 1) + q))) p0 j) 8) (32 + (16 * f)))))) (h1 := (Wd C (cz (rA e p f (fun q => N1 (7 * (m1 - 1) + q))) (sa (rA e p f (fun q => N1 (7 * (m1 - 1) + q))) p0 j) 8) (P.1, 0) (Q.1, 0) m1 N1 R 0 Z)) rfl rfl rfl rfl (eg (Nat.le_of_ble_eq_true rfl) (show 21 ≤ lo by omega) (Nat.le_of_ble_eq_true rfl)) (m_kind (show 20 ≤ lo - 21 by omega) hf) ?_
  rw [ck]
  refine eR.step 1 (F' := (231, [(0, .ref 23), (1, .int (nI 1)), (2, .int (nI (f))), (3, .int (nI (p0))), (4, .int (nI (j))), (5, .int (nI (p)))], [.int (nI 2), .int (nI (e (32 + (16 * f))))])) (h' := (Wd C (cz (rA e p f (fun q => N1 (7 * (m1 - 1) + q))) (sa (rA e p f (fun q => N1 (7 * (m1 - 1) + q))) p0 j) 8) (P.1, 0) (Q.1, 0) m1 N1 R 0 Z)) (fun _ _ => rfl) ?_
  refine eR.icmp rfl true ((nc_ne (by omega) (by omega)).trans (decide_eq_true (by omega))) ?_
  refine eR.step 1 (F' := (261, [(0, .ref 23), (1, .int (nI 1)), (2, .int (nI (f))), (3, .int (nI (p0))), (4, .int (nI (j))), (5, .int (nI (p)))], [.int (nI (f))])) (h' := (Wd C (cz (rA e p f (fun q => N1 (7 * (m1 - 1) + q))) (sa (rA e p f (fun q => N1 (7 * (m1 - 1) + q))) p0 j) 8) (P.1, 0) (Q.1, 0) m1 N1 R 0 Z)) (fun _ _ => rfl) ?_
  exact eR.ret rfl rfl rfl

