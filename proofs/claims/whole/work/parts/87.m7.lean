theorem m_linkA {cm sm fr lo : Nat} {C : gC} {e : Nat → Nat} {P Q : gT} {m : Nat} {N : Nat → Nat} {R : gS} {t : Nat} {Z : mj_H} (hlo : 159 ≤ lo) (V : qV e) (hN : ∀ k, N k < 256) (ht : ∀ k, P.1 k < 65536) (hl : P.2 ≤ 40) (ht2 : ∀ k, Q.1 k < 65536) (hl2 : Q.2 ≤ 40) {p f m1 : Nat} {N1 : Nat → Nat} (hf0 : fo e Q N = f) (hp0 : ab e P (pP Q.1 Q.2 N).2.2 = p) (hm0 : (pP P.1 P.2 (pP Q.1 Q.2 N).2.2).2.1 = m1) (hN0 : (pP P.1 P.2 (pP Q.1 Q.2 N).2.2).2.2 = N1) (h : ¬ rt (tf e p) (tf e f) = 0) : eE mm_P cm sm (fr + 8) lo 141 [.ref 23] (Wd C e P Q m N R t Z) (.inl (some (.int (nI 0))), (Wd C e (P.1, 0) (Q.1, 0) m1 N1 R (rt (tf e p) (tf e f)) Z)) := by
  refine eE.of ?_
  have htf := tf_le e p
  have htg := tf_le e f
  refine eR.step 2 (F' := (2, [(0, .ref 23)], [.int (nI 1), .ref 23])) (h' := (Wd C e P Q m N R t Z)) (fun _ _ => rfl) ?_
  refine eR.call (k' := 142) (as := [.ref 23, .int (nI 1)]) (rest := []) (v := some (.int (nI (fo e Q N)))) (h1 := (Wd C e P (Q.1, 0) (pP Q.1 Q.2 N).2.1 (pP Q.1 Q.2 N).2.2 R (tf e (fo e Q N)) Z)) rfl rfl rfl rfl (eg (Nat.le_of_ble_eq_true rfl) (show 23 ≤ lo by omega) (Nat.le_of_ble_eq_true rfl)) (m_found1 (show 136 ≤ lo - 23 by omega) V hN ht2 hl2) ?_
  rw [hf0]
  refine eR.step 5 (F' := (12, [(0, .ref 23), (1, .int (nI (f))), (2, .int (nI ((tf e f))))], [.ref 23])) (h' := (Wd C e P (Q.1, 0) (pP Q.1 Q.2 N).2.1 (pP Q.1 Q.2 N).2.2 R (tf e f) Z)) (fun _ _ => rfl) ?_
  refine eR.call (k' := 123) (as := [.ref 23]) (rest := []) (v := some (.int (nI (ab e P (pP Q.1 Q.2 N).2.2)))) (h1 := (Wd C e (P.1, 0) (Q.1, 0) (pP P.1 P.2 (pP Q.1 Q.2 N).2.2).2.1 (pP P.1 P.2 (pP Q.1 Q.2 N).2.2).2.2 R (tf e (ab e P (pP Q.1 Q.2 N).2.2)) Z)) rfl rfl rfl rfl (eg (Nat.le_of_ble_eq_true rfl) (show 23 ≤ lo by omega) (Nat.le_of_ble_eq_true rfl)) (m_above (show 136 ≤ lo - 23 by omega) V (pP_N hN) ht hl) ?_
  rw [hp0, hm0, hN0]
  refine eR.step 4 (F' := (21, [(0, .ref 23), (1, .int (nI (f))), (2, .int (nI ((tf e f)))), (3, .int (nI (p)))], [.int (nI ((tf e p))), .ref 23])) (h' := (Wd C e (P.1, 0) (Q.1, 0) m1 N1 R (tf e p) Z)) (fun _ _ => rfl) ?_
  unfold rt at h ⊢
  by_cases h1 : tf e p = 0
  · rw [if_pos h1] at h ⊢
    refine eR.ifc rfl false ((nc_ne (b := 0) (by omega) (by decide)).trans (decide_eq_false (by omega))) ?_
    refine eR.step 2 (F' := (32, [(0, .ref 23), (1, .int (nI (f))), (2, .int (nI ((tf e f)))), (3, .int (nI (p)))], [.int (nI ((tf e f))), .ref 23])) (h' := (Wd C e (P.1, 0) (Q.1, 0) m1 N1 R (tf e p) Z)) (fun _ _ => rfl) ?_
    refine eR.sim rfl (F := (35, [(0, .ref 23), (1, .int (nI (f))), (2, .int (nI ((tf e f)))), (3, .int (nI (p)))], [])) (h' := (Wd C e (P.1, 0) (Q.1, 0) m1 N1 R ((tf e f)) Z)) (by rfl) ?_
    refine eR.step 2 (F' := (39, [(0, .ref 23), (1, .int (nI (f))), (2, .int (nI ((tf e f)))), (3, .int (nI (p)))], [.int (nI (((tf e f))))])) (h' := (Wd C e (P.1, 0) (Q.1, 0) m1 N1 R ((tf e f)) Z)) (fun _ _ => rfl) ?_
    refine eR.ifc rfl true ((nc_ne (b := 0) (by omega) (by decide)).trans (decide_eq_true (by omega))) ?_
    refine eR.step 2 (F' := (121, [(0, .ref 23), (1, .int (nI (f))), (2, .int (nI ((tf e f)))), (3, .int (nI (p)))], [.int (nI (((tf e f))))])) (h' := (Wd C e (P.1, 0) (Q.1, 0) m1 N1 R ((tf e f)) Z)) (fun _ _ => rfl) ?_
    refine eR.ifc rfl false ((nc_eq (b := 0) (by omega) (by decide)).trans (decide_eq_false (by omega))) ?_
    refine eR.step 1 (F' := (125, [(0, .ref 23), (1, .int (nI (f))), (2, .int (nI ((tf e f)))), (3, .int (nI (p)))], [.int (nI 0)])) (h' := (Wd C e (P.1, 0) (Q.1, 0) m1 N1 R ((tf e f)) Z)) (fun _ _ => rfl) ?_
    exact eR.ret rfl rfl rfl
  · rw [if_neg h1] at h ⊢
    refine eR.ifc rfl true ((nc_ne (b := 0) (by omega) (by decide)).trans (decide_eq_true (by omega))) ?_
    refine eR.step 2 (F' := (32, [(0, .ref 23), (1, .int (nI (f))), (2, .int (nI ((tf e f)))), (3, .int (nI (p)))], [.int (nI ((tf e p))), .ref 23])) (h' := (Wd C e (P.1, 0) (Q.1, 0) m1 N1 R (tf e p) Z)) (fun _ _ => rfl) ?_
    refine eR.sim rfl (F := (35, [(0, .ref 23), (1, .int (nI (f))), (2, .int (nI ((tf e f)))), (3, .int (nI (p)))], [])) (h' := (Wd C e (P.1, 0) (Q.1, 0) m1 N1 R ((tf e p)) Z)) (by rfl) ?_
    refine eR.step 2 (F' := (39, [(0, .ref 23), (1, .int (nI (f))), (2, .int (nI ((tf e f)))), (3, .int (nI (p)))], [.int (nI (((tf e p))))])) (h' := (Wd C e (P.1, 0) (Q.1, 0) m1 N1 R ((tf e p)) Z)) (fun _ _ => rfl) ?_
    refine eR.ifc rfl true ((nc_ne (b := 0) (by omega) (by decide)).trans (decide_eq_true (by omega))) ?_
    refine eR.step 2 (F' := (121, [(0, .ref 23), (1, .int (nI (f))), (2, .int (nI ((tf e f)))), (3, .int (nI (p)))], [.int (nI (((tf e p))))])) (h' := (Wd C e (P.1, 0) (Q.1, 0) m1 N1 R ((tf e p)) Z)) (fun _ _ => rfl) ?_
    refine eR.ifc rfl false ((nc_eq (b := 0) (by omega) (by decide)).trans (decide_eq_false (by omega))) ?_
    refine eR.step 1 (F' := (125, [(0, .ref 23), (1, .int (nI (f))), (2, .int (nI ((tf e f)))), (3, .int (nI (p)))], [.int (nI 0)])) (h' := (Wd C e (P.1, 0) (Q.1, 0) m1 N1 R ((tf e p)) Z)) (fun _ _ => rfl) ?_
    exact eR.ret rfl rfl rfl
theorem m_linkD {cm sm fr lo : Nat} {C : gC} {e : Nat → Nat} {P Q : gT} {m : Nat} {N : Nat → Nat} {R : gS} {t : Nat} {Z : mj_H} (hlo : 159 ≤ lo) (V : qV e) (hN : ∀ k, N k < 256) (ht : ∀ k, P.1 k < 65536) (hl : P.2 ≤ 40) (ht2 : ∀ k, Q.1 k < 65536) (hl2 : Q.2 ≤ 40) {p f m1 : Nat} {N1 : Nat → Nat} (hf0 : fo e Q N = f) (hp0 : ab e P (pP Q.1 Q.2 N).2.2 = p) (hm0 : (pP P.1 P.2 (pP Q.1 Q.2 N).2.2).2.1 = m1) (hN0 : (pP P.1 P.2 (pP Q.1 Q.2 N).2.2).2.2 = N1) (h11 : e 11 = 1) (hpn : ¬ p = 0) (hfn : ¬ f = 0) (hm1 : 1 ≤ m1) (hm2 : m1 ≤ 20) (hN1 : ∀ k, N1 k < 256) (hp : p < 16) (hf : f < 16) (hD : gD e p) (hk : e (32 + (16 * f)) = 2) : eE mm_P cm sm (fr + 8) lo 141 [.ref 23] (Wd C e P Q m N R t Z) (.inl (some (.int (nI 0))), (Wd C e (P.1, 0) (Q.1, 0) m1 N1 R 3 Z)) := by
  refine eE.of ?_
  have htf := tf_le e p
  have htg := tf_le e f
  refine eR.step 2 (F' := (2, [(0, .ref 23)], [.int (nI 1), .ref 23])) (h' := (Wd C e P Q m N R t Z)) (fun _ _ => rfl) ?_
  refine eR.call (k' := 142) (as := [.ref 23, .int (nI 1)]) (rest := []) (v := some (.int (nI (fo e Q N)))) (h1 := (Wd C e P (Q.1, 0) (pP Q.1 Q.2 N).2.1 (pP Q.1 Q.2 N).2.2 R (tf e (fo e Q N)) Z)) rfl rfl rfl rfl (eg (Nat.le_of_ble_eq_true rfl) (show 23 ≤ lo by omega) (Nat.le_of_ble_eq_true rfl)) (m_found1 (show 136 ≤ lo - 23 by omega) V hN ht2 hl2) ?_
  rw [hf0]
  refine eR.step 5 (F' := (12, [(0, .ref 23), (1, .int (nI (f))), (2, .int (nI ((tf e f))))], [.ref 23])) (h' := (Wd C e P (Q.1, 0) (pP Q.1 Q.2 N).2.1 (pP Q.1 Q.2 N).2.2 R (tf e f) Z)) (fun _ _ => rfl) ?_
  refine eR.call (k' := 123) (as := [.ref 23]) (rest := []) (v := some (.int (nI (ab e P (pP Q.1 Q.2 N).2.2)))) (h1 := (Wd C e (P.1, 0) (Q.1, 0) (pP P.1 P.2 (pP Q.1 Q.2 N).2.2).2.1 (pP P.1 P.2 (pP Q.1 Q.2 N).2.2).2.2 R (tf e (ab e P (pP Q.1 Q.2 N).2.2)) Z)) rfl rfl rfl rfl (eg (Nat.le_of_ble_eq_true rfl) (show 23 ≤ lo by omega) (Nat.le_of_ble_eq_true rfl)) (m_above (show 136 ≤ lo - 23 by omega) V (pP_N hN) ht hl) ?_
  rw [hp0, hm0, hN0]
  refine eR.step 4 (F' := (21, [(0, .ref 23), (1, .int (nI (f))), (2, .int (nI ((tf e f)))), (3, .int (nI (p)))], [.int (nI ((tf e p))), .ref 23])) (h' := (Wd C e (P.1, 0) (Q.1, 0) m1 N1 R (tf e p) Z)) (fun _ _ => rfl) ?_
  rw [tf_0 h11 hpn, tf_0 h11 hfn]
  refine eR.ifc rfl false ((nc_ne (b := 0) (by omega) (by decide)).trans (decide_eq_false (by omega))) ?_
  refine eR.step 2 (F' := (32, [(0, .ref 23), (1, .int (nI (f))), (2, .int (nI 0)), (3, .int (nI (p)))], [.int (nI 0), .ref 23])) (h' := (Wd C e (P.1, 0) (Q.1, 0) m1 N1 R 0 Z)) (fun _ _ => rfl) ?_
  refine eR.sim rfl (F := (35, [(0, .ref 23), (1, .int (nI (f))), (2, .int (nI 0)), (3, .int (nI (p)))], [])) (h' := (Wd C e (P.1, 0) (Q.1, 0) m1 N1 R 0 Z)) (by rfl) ?_
  refine eR.step 2 (F' := (39, [(0, .ref 23), (1, .int (nI (f))), (2, .int (nI 0)), (3, .int (nI (p)))], [.int (nI 0)])) (h' := (Wd C e (P.1, 0) (Q.1, 0) m1 N1 R 0 Z)) (fun _ _ => rfl) ?_
  refine eR.ifc rfl false ((nc_ne (b := 0) (by omega) (by decide)).trans (decide_eq_false (by omega))) ?_
  refine eR.step 3 (F' := (45, [(0, .ref 23), (1, .int (nI (f))), (2, .int (nI 0)), (3, .int (nI (p)))], [.int (nI (f)), .ref 23, .ref 23])) (h' := (Wd C e (P.1, 0) (Q.1, 0) m1 N1 R 0 Z)) (fun _ _ => rfl) ?_
  have h6 := V.B.dk.1 (32 + (16 * f))
  refine eR.call (k' := 128) (as := [.ref 23, .int (nI (f))]) (rest := [.ref 23]) (v := some (.int (nI (e (32 + (16 * f)))))) (h1 := (Wd C e (P.1, 0) (Q.1, 0) m1 N1 R 0 Z)) rfl rfl rfl rfl (eg (Nat.le_of_ble_eq_true rfl) (show 21 ≤ lo by omega) (Nat.le_of_ble_eq_true rfl)) (m_kind (show 20 ≤ lo - 21 by omega) hf) ?_
  refine eR.step 1 (F' := (49, [(0, .ref 23), (1, .int (nI (f))), (2, .int (nI 0)), (3, .int (nI (p)))], [.int (nI 2), .int (nI (e (32 + (16 * f)))), .ref 23])) (h' := (Wd C e (P.1, 0) (Q.1, 0) m1 N1 R 0 Z)) (fun _ _ => rfl) ?_
  refine eR.icmp rfl false ((nc_ne (by omega) (by omega)).trans (decide_eq_false (by omega))) ?_
  refine eR.step 3 (F' := (58, [(0, .ref 23), (1, .int (nI (f))), (2, .int (nI 0)), (3, .int (nI (p)))], [.int (nI 3), .int (nI 1), .ref 23])) (h' := (Wd C e (P.1, 0) (Q.1, 0) m1 N1 R 0 Z)) (fun _ _ => rfl) ?_
  refine eR.call (k' := 136) (as := [.ref 23, .int (nI 1), .int (nI 3)]) (rest := []) (v := none) (h1 := (Wd C e (P.1, 0) (Q.1, 0) m1 N1 R (ri true 0 3) Z)) rfl rfl rfl rfl (eg (Nat.le_of_ble_eq_true rfl) (show 22 ≤ lo by omega) (Nat.le_of_ble_eq_true rfl)) (m_refIf (b := true) (show 21 ≤ lo - 22 by omega) (by decide)) ?_
  rw [show ri true 0 3 = 3 from rfl]
  refine eR.step 6 (F' := (69, [(0, .ref 23), (1, .int (nI (f))), (2, .int (nI 0)), (3, .int (nI (p)))], [.int (nI 1), .int (nI (m1)), .int (nI (p)), .ref 23, .ref 23])) (h' := (Wd C e (P.1, 0) (Q.1, 0) m1 N1 R 3 Z)) (fun _ _ => rfl) ?_
  refine eR.nsub rfl (by omega) ?_
  refine eR.call (k' := 129) (as := [.ref 23, .int (nI (p)), .int (nI (m1 - 1))]) (rest := [.ref 23]) (v := some (.int (fi (fd e p (fun q => N1 (7 * (m1 - 1) + q)) 2 (sn e p - 2))))) (h1 := (Wd C e (P.1, 0) (Q.1, 0) m1 N1 R 3 Z)) rfl rfl rfl rfl (eg (Nat.le_of_ble_eq_true rfl) (show 24 ≤ lo by omega) (Nat.le_of_ble_eq_true rfl)) (m_slotOf (show 88 ≤ lo - 24 by omega) V.B.dk hD (fun k => Nat.lt_trans (hN1 k) (by decide)) (by omega)) ?_
  by_cases hF : fd e p (fun q => N1 (7 * (m1 - 1) + q)) 2 (sn e p - 2) = 0
  · have h7 := V.B.dk.1 (32 + (16 * f) + 1)
    refine eR.ifc rfl false (mc_gi0 hF) ?_
    refine eR.step 3 (F' := (81, [(0, .ref 23), (1, .int (nI (f))), (2, .int (nI 0)), (3, .int (nI (p)))], [.int (nI (f)), .ref 24, .ref 23])) (h' := (Wd C e (P.1, 0) (Q.1, 0) m1 N1 R 3 Z)) (fun _ _ => rfl) ?_
    refine eR.call (k' := 111) (as := [.int (nI (f))]) (rest := [.ref 24, .ref 23]) (v := some (.int (nI (32 + (16 * f))))) (h1 := (Wd C e (P.1, 0) (Q.1, 0) m1 N1 R 3 Z)) rfl rfl rfl rfl (eg (Nat.le_of_ble_eq_true rfl) (show 20 ≤ lo by omega) (Nat.le_of_ble_eq_true rfl)) (m_at (by omega)) ?_
    refine eR.step 1 (F' := (85, [(0, .ref 23), (1, .int (nI (f))), (2, .int (nI 0)), (3, .int (nI (p)))], [.int (nI 1), .int (nI (32 + (16 * f))), .ref 24, .ref 23])) (h' := (Wd C e (P.1, 0) (Q.1, 0) m1 N1 R 3 Z)) (fun _ _ => rfl) ?_
    refine eR.nadd rfl ?_
    refine eR.ld24 rfl (by omega) ?_
    refine eR.step 1 (F' := (90, [(0, .ref 23), (1, .int (nI (f))), (2, .int (nI 0)), (3, .int (nI (p)))], [.int (nI 255), .int (nI (e ((32 + (16 * f)) + 1))), .ref 23])) (h' := (Wd C e (P.1, 0) (Q.1, 0) m1 N1 R 3 Z)) (fun _ _ => rfl) ?_
    by_cases h8 : e (32 + (16 * f) + 1) = 255
    · refine eR.icmp rfl true ((nc_eq (by omega) (by omega)).trans (decide_eq_true (by omega))) ?_
      refine eR.step 3 (F' := (114, [(0, .ref 23), (1, .int (nI (f))), (2, .int (nI 0)), (3, .int (nI (p)))], [.int (nI 1), .int (nI 1), .ref 23])) (h' := (Wd C e (P.1, 0) (Q.1, 0) m1 N1 R 3 Z)) (fun _ _ => rfl) ?_
      refine eR.call (k' := 136) (as := [.ref 23, .int (nI 1), .int (nI 1)]) (rest := []) (v := none) (h1 := (Wd C e (P.1, 0) (Q.1, 0) m1 N1 R (ri true 3 1) Z)) rfl rfl rfl rfl (eg (Nat.le_of_ble_eq_true rfl) (show 22 ≤ lo by omega) (Nat.le_of_ble_eq_true rfl)) (m_refIf (b := true) (show 21 ≤ lo - 22 by omega) (by decide)) ?_
      rw [show ri true 3 1 = 3 from rfl]
      refine eR.step 2 (F' := (121, [(0, .ref 23), (1, .int (nI (f))), (2, .int (nI 0)), (3, .int (nI (p)))], [.int (nI 3)])) (h' := (Wd C e (P.1, 0) (Q.1, 0) m1 N1 R 3 Z)) (fun _ _ => rfl) ?_
      refine eR.ifc rfl false ((nc_eq (b := 0) (by omega) (by decide)).trans (decide_eq_false (by omega))) ?_
      refine eR.step 1 (F' := (125, [(0, .ref 23), (1, .int (nI (f))), (2, .int (nI 0)), (3, .int (nI (p)))], [.int (nI 0)])) (h' := (Wd C e (P.1, 0) (Q.1, 0) m1 N1 R 3 Z)) (fun _ _ => rfl) ?_
      exact eR.ret rfl rfl rfl
    · refine eR.icmp rfl false ((nc_eq (by omega) (by omega)).trans (decide_eq_false (by omega))) ?_
      have hB3 := cf_b e 3 64 0
      have hR1 := rN_le e p
      refine eR.step 2 (F' := (95, [(0, .ref 23), (1, .int (nI (f))), (2, .int (nI 0)), (3, .int (nI (p)))], [.int (nI (p)), .ref 23, .ref 23])) (h' := (Wd C e (P.1, 0) (Q.1, 0) m1 N1 R 3 Z)) (fun _ _ => rfl) ?_
      refine eR.call (k' := 134) (as := [.ref 23, .int (nI (p))]) (rest := [.ref 23]) (v := some (.int (nI (rN e p)))) (h1 := (Wd C e (P.1, 0) (Q.1, 0) m1 N1 R 3 Z)) rfl rfl rfl rfl (eg (Nat.le_of_ble_eq_true rfl) (show 21 ≤ lo by omega) (Nat.le_of_ble_eq_true rfl)) (m_room (show 110 ≤ lo - 21 by omega) V.B.dk hD) ?_
      refine eR.step 3 (F' := (102, [(0, .ref 23), (1, .int (nI (f))), (2, .int (nI 0)), (3, .int (nI (p)))], [.int (nI 64), .int (nI 3), .ref 23, .int (nI (rN e p)), .ref 23])) (h' := (Wd C e (P.1, 0) (Q.1, 0) m1 N1 R 3 Z)) (fun _ _ => rfl) ?_
      refine eR.call (k' := 133) (as := [.ref 23, .int (nI 3), .int (nI 64)]) (rest := [.int (nI (rN e p)), .ref 23]) (v := some (.int (nI (cf e 3 0 64)))) (h1 := (Wd C e (P.1, 0) (Q.1, 0) m1 N1 R 3 Z)) rfl rfl rfl rfl (eg (Nat.le_of_ble_eq_true rfl) (show 24 ≤ lo by omega) (Nat.le_of_ble_eq_true rfl)) (m_free (show 22 ≤ lo - 24 by omega) V.B.dk (by decide) (by decide)) ?_
      by_cases h9 : cf e 3 0 64 < rN e p
      · refine eR.icmp rfl false ((nc_le (by omega) (by omega)).trans (decide_eq_false (by omega))) ?_
        refine eR.step 3 (F' := (114, [(0, .ref 23), (1, .int (nI (f))), (2, .int (nI 0)), (3, .int (nI (p)))], [.int (nI 1), .int (nI 1), .ref 23])) (h' := (Wd C e (P.1, 0) (Q.1, 0) m1 N1 R 3 Z)) (fun _ _ => rfl) ?_
        refine eR.call (k' := 136) (as := [.ref 23, .int (nI 1), .int (nI 1)]) (rest := []) (v := none) (h1 := (Wd C e (P.1, 0) (Q.1, 0) m1 N1 R (ri true 3 1) Z)) rfl rfl rfl rfl (eg (Nat.le_of_ble_eq_true rfl) (show 22 ≤ lo by omega) (Nat.le_of_ble_eq_true rfl)) (m_refIf (b := true) (show 21 ≤ lo - 22 by omega) (by decide)) ?_
        rw [show ri true 3 1 = 3 from rfl]
        refine eR.step 2 (F' := (121, [(0, .ref 23), (1, .int (nI (f))), (2, .int (nI 0)), (3, .int (nI (p)))], [.int (nI 3)])) (h' := (Wd C e (P.1, 0) (Q.1, 0) m1 N1 R 3 Z)) (fun _ _ => rfl) ?_
        refine eR.ifc rfl false ((nc_eq (b := 0) (by omega) (by decide)).trans (decide_eq_false (by omega))) ?_
        refine eR.step 1 (F' := (125, [(0, .ref 23), (1, .int (nI (f))), (2, .int (nI 0)), (3, .int (nI (p)))], [.int (nI 0)])) (h' := (Wd C e (P.1, 0) (Q.1, 0) m1 N1 R 3 Z)) (fun _ _ => rfl) ?_
        exact eR.ret rfl rfl rfl
      · refine eR.icmp rfl true ((nc_le (by omega) (by omega)).trans (decide_eq_true (by omega))) ?_
        refine eR.step 2 (F' := (114, [(0, .ref 23), (1, .int (nI (f))), (2, .int (nI 0)), (3, .int (nI (p)))], [.int (nI 1), .int (nI 0), .ref 23])) (h' := (Wd C e (P.1, 0) (Q.1, 0) m1 N1 R 3 Z)) (fun _ _ => rfl) ?_
        refine eR.call (k' := 136) (as := [.ref 23, .int (nI 0), .int (nI 1)]) (rest := []) (v := none) (h1 := (Wd C e (P.1, 0) (Q.1, 0) m1 N1 R (ri false 3 1) Z)) rfl rfl rfl rfl (eg (Nat.le_of_ble_eq_true rfl) (show 22 ≤ lo by omega) (Nat.le_of_ble_eq_true rfl)) (m_refIf (b := false) (show 21 ≤ lo - 22 by omega) (by decide)) ?_
        rw [show ri false 3 1 = 3 from rfl]
        refine eR.step 2 (F' := (121, [(0, .ref 23), (1, .int (nI (f))), (2, .int (nI 0)), (3, .int (nI (p)))], [.int (nI 3)])) (h' := (Wd C e (P.1, 0) (Q.1, 0) m1 N1 R 3 Z)) (fun _ _ => rfl) ?_
        refine eR.ifc rfl false ((nc_eq (b := 0) (by omega) (by decide)).trans (decide_eq_false (by omega))) ?_
        refine eR.step 1 (F' := (125, [(0, .ref 23), (1, .int (nI (f))), (2, .int (nI 0)), (3, .int (nI (p)))], [.int (nI 0)])) (h' := (Wd C e (P.1, 0) (Q.1, 0) m1 N1 R 3 Z)) (fun _ _ => rfl) ?_
        exact eR.ret rfl rfl rfl
  · have h5 := fd_24 hD.2.2.1 hF
    refine eR.ifc rfl true (mc_gin hF (by omega)) ?_
    refine eR.step 3 (F' := (114, [(0, .ref 23), (1, .int (nI (f))), (2, .int (nI 0)), (3, .int (nI (p)))], [.int (nI 1), .int (nI 1), .ref 23])) (h' := (Wd C e (P.1, 0) (Q.1, 0) m1 N1 R 3 Z)) (fun _ _ => rfl) ?_
    refine eR.call (k' := 136) (as := [.ref 23, .int (nI 1), .int (nI 1)]) (rest := []) (v := none) (h1 := (Wd C e (P.1, 0) (Q.1, 0) m1 N1 R (ri true 3 1) Z)) rfl rfl rfl rfl (eg (Nat.le_of_ble_eq_true rfl) (show 22 ≤ lo by omega) (Nat.le_of_ble_eq_true rfl)) (m_refIf (b := true) (show 21 ≤ lo - 22 by omega) (by decide)) ?_
    rw [show ri true 3 1 = 3 from rfl]
    refine eR.step 2 (F' := (121, [(0, .ref 23), (1, .int (nI (f))), (2, .int (nI 0)), (3, .int (nI (p)))], [.int (nI 3)])) (h' := (Wd C e (P.1, 0) (Q.1, 0) m1 N1 R 3 Z)) (fun _ _ => rfl) ?_
    refine eR.ifc rfl false ((nc_eq (b := 0) (by omega) (by decide)).trans (decide_eq_false (by omega))) ?_
    refine eR.step 1 (F' := (125, [(0, .ref 23), (1, .int (nI (f))), (2, .int (nI 0)), (3, .int (nI (p)))], [.int (nI 0)])) (h' := (Wd C e (P.1, 0) (Q.1, 0) m1 N1 R 3 Z)) (fun _ _ => rfl) ?_
    exact eR.ret rfl rfl rfl
theorem m_linkB1 {cm sm fr lo : Nat} {C : gC} {e : Nat → Nat} {P Q : gT} {m : Nat} {N : Nat → Nat} {R : gS} {t : Nat} {Z : mj_H} (hlo : 159 ≤ lo) (V : qV e) (hN : ∀ k, N k < 256) (ht : ∀ k, P.1 k < 65536) (hl : P.2 ≤ 40) (ht2 : ∀ k, Q.1 k < 65536) (hl2 : Q.2 ≤ 40) {p f m1 : Nat} {N1 : Nat → Nat} (hf0 : fo e Q N = f) (hp0 : ab e P (pP Q.1 Q.2 N).2.2 = p) (hm0 : (pP P.1 P.2 (pP Q.1 Q.2 N).2.2).2.1 = m1) (hN0 : (pP P.1 P.2 (pP Q.1 Q.2 N).2.2).2.2 = N1) (h11 : e 11 = 1) (hpn : ¬ p = 0) (hfn : ¬ f = 0) (hm1 : 1 ≤ m1) (hm2 : m1 ≤ 20) (hN1 : ∀ k, N1 k < 256) (hp : p < 16) (hf : f < 16) (hD : gD e p) (hk : ¬ e (32 + (16 * f)) = 2) (hF : ¬ fd e p (fun q => N1 (7 * (m1 - 1) + q)) 2 (sn e p - 2) = 0) : eE mm_P cm sm (fr + 8) lo 141 [.ref 23] (Wd C e P Q m N R t Z) (.inl (some (.int (nI 0))), (Wd C e (P.1, 0) (Q.1, 0) m1 N1 R 1 Z)) := by
  refine eE.of ?_
  have htf := tf_le e p
  have htg := tf_le e f
  refine eR.step 2 (F' := (2, [(0, .ref 23)], [.int (nI 1), .ref 23])) (h' := (Wd C e P Q m N R t Z)) (fun _ _ => rfl) ?_
  refine eR.call (k' := 142) (as := [.ref 23, .int (nI 1)]) (rest := []) (v := some (.int (nI (fo e Q N)))) (h1 := (Wd C e P (Q.1, 0) (pP Q.1 Q.2 N).2.1 (pP Q.1 Q.2 N).2.2 R (tf e (fo e Q N)) Z)) rfl rfl rfl rfl (eg (Nat.le_of_ble_eq_true rfl) (show 23 ≤ lo by omega) (Nat.le_of_ble_eq_true rfl)) (m_found1 (show 136 ≤ lo - 23 by omega) V hN ht2 hl2) ?_
  rw [hf0]
  refine eR.step 5 (F' := (12, [(0, .ref 23), (1, .int (nI (f))), (2, .int (nI ((tf e f))))], [.ref 23])) (h' := (Wd C e P (Q.1, 0) (pP Q.1 Q.2 N).2.1 (pP Q.1 Q.2 N).2.2 R (tf e f) Z)) (fun _ _ => rfl) ?_
  refine eR.call (k' := 123) (as := [.ref 23]) (rest := []) (v := some (.int (nI (ab e P (pP Q.1 Q.2 N).2.2)))) (h1 := (Wd C e (P.1, 0) (Q.1, 0) (pP P.1 P.2 (pP Q.1 Q.2 N).2.2).2.1 (pP P.1 P.2 (pP Q.1 Q.2 N).2.2).2.2 R (tf e (ab e P (pP Q.1 Q.2 N).2.2)) Z)) rfl rfl rfl rfl (eg (Nat.le_of_ble_eq_true rfl) (show 23 ≤ lo by omega) (Nat.le_of_ble_eq_true rfl)) (m_above (show 136 ≤ lo - 23 by omega) V (pP_N hN) ht hl) ?_
  rw [hp0, hm0, hN0]
  refine eR.step 4 (F' := (21, [(0, .ref 23), (1, .int (nI (f))), (2, .int (nI ((tf e f)))), (3, .int (nI (p)))], [.int (nI ((tf e p))), .ref 23])) (h' := (Wd C e (P.1, 0) (Q.1, 0) m1 N1 R (tf e p) Z)) (fun _ _ => rfl) ?_
  rw [tf_0 h11 hpn, tf_0 h11 hfn]
  refine eR.ifc rfl false ((nc_ne (b := 0) (by omega) (by decide)).trans (decide_eq_false (by omega))) ?_
  refine eR.step 2 (F' := (32, [(0, .ref 23), (1, .int (nI (f))), (2, .int (nI 0)), (3, .int (nI (p)))], [.int (nI 0), .ref 23])) (h' := (Wd C e (P.1, 0) (Q.1, 0) m1 N1 R 0 Z)) (fun _ _ => rfl) ?_
  refine eR.sim rfl (F := (35, [(0, .ref 23), (1, .int (nI (f))), (2, .int (nI 0)), (3, .int (nI (p)))], [])) (h' := (Wd C e (P.1, 0) (Q.1, 0) m1 N1 R 0 Z)) (by rfl) ?_
  refine eR.step 2 (F' := (39, [(0, .ref 23), (1, .int (nI (f))), (2, .int (nI 0)), (3, .int (nI (p)))], [.int (nI 0)])) (h' := (Wd C e (P.1, 0) (Q.1, 0) m1 N1 R 0 Z)) (fun _ _ => rfl) ?_
  refine eR.ifc rfl false ((nc_ne (b := 0) (by omega) (by decide)).trans (decide_eq_false (by omega))) ?_
  refine eR.step 3 (F' := (45, [(0, .ref 23), (1, .int (nI (f))), (2, .int (nI 0)), (3, .int (nI (p)))], [.int (nI (f)), .ref 23, .ref 23])) (h' := (Wd C e (P.1, 0) (Q.1, 0) m1 N1 R 0 Z)) (fun _ _ => rfl) ?_
  have h6 := V.B.dk.1 (32 + (16 * f))
  refine eR.call (k' := 128) (as := [.ref 23, .int (nI (f))]) (rest := [.ref 23]) (v := some (.int (nI (e (32 + (16 * f)))))) (h1 := (Wd C e (P.1, 0) (Q.1, 0) m1 N1 R 0 Z)) rfl rfl rfl rfl (eg (Nat.le_of_ble_eq_true rfl) (show 21 ≤ lo by omega) (Nat.le_of_ble_eq_true rfl)) (m_kind (show 20 ≤ lo - 21 by omega) hf) ?_
  refine eR.step 1 (F' := (49, [(0, .ref 23), (1, .int (nI (f))), (2, .int (nI 0)), (3, .int (nI (p)))], [.int (nI 2), .int (nI (e (32 + (16 * f)))), .ref 23])) (h' := (Wd C e (P.1, 0) (Q.1, 0) m1 N1 R 0 Z)) (fun _ _ => rfl) ?_
  refine eR.icmp rfl true ((nc_ne (by omega) (by omega)).trans (decide_eq_true (by omega))) ?_
  refine eR.step 2 (F' := (58, [(0, .ref 23), (1, .int (nI (f))), (2, .int (nI 0)), (3, .int (nI (p)))], [.int (nI 3), .int (nI 0), .ref 23])) (h' := (Wd C e (P.1, 0) (Q.1, 0) m1 N1 R 0 Z)) (fun _ _ => rfl) ?_
  refine eR.call (k' := 136) (as := [.ref 23, .int (nI 0), .int (nI 3)]) (rest := []) (v := none) (h1 := (Wd C e (P.1, 0) (Q.1, 0) m1 N1 R (ri false 0 3) Z)) rfl rfl rfl rfl (eg (Nat.le_of_ble_eq_true rfl) (show 22 ≤ lo by omega) (Nat.le_of_ble_eq_true rfl)) (m_refIf (b := false) (show 21 ≤ lo - 22 by omega) (by decide)) ?_
  rw [show ri false 0 3 = 0 from rfl]
  refine eR.step 6 (F' := (69, [(0, .ref 23), (1, .int (nI (f))), (2, .int (nI 0)), (3, .int (nI (p)))], [.int (nI 1), .int (nI (m1)), .int (nI (p)), .ref 23, .ref 23])) (h' := (Wd C e (P.1, 0) (Q.1, 0) m1 N1 R 0 Z)) (fun _ _ => rfl) ?_
  refine eR.nsub rfl (by omega) ?_
  refine eR.call (k' := 129) (as := [.ref 23, .int (nI (p)), .int (nI (m1 - 1))]) (rest := [.ref 23]) (v := some (.int (fi (fd e p (fun q => N1 (7 * (m1 - 1) + q)) 2 (sn e p - 2))))) (h1 := (Wd C e (P.1, 0) (Q.1, 0) m1 N1 R 0 Z)) rfl rfl rfl rfl (eg (Nat.le_of_ble_eq_true rfl) (show 24 ≤ lo by omega) (Nat.le_of_ble_eq_true rfl)) (m_slotOf (show 88 ≤ lo - 24 by omega) V.B.dk hD (fun k => Nat.lt_trans (hN1 k) (by decide)) (by omega)) ?_
  have h5 := fd_24 hD.2.2.1 hF
  refine eR.ifc rfl true (mc_gin hF (by omega)) ?_
  refine eR.step 3 (F' := (114, [(0, .ref 23), (1, .int (nI (f))), (2, .int (nI 0)), (3, .int (nI (p)))], [.int (nI 1), .int (nI 1), .ref 23])) (h' := (Wd C e (P.1, 0) (Q.1, 0) m1 N1 R 0 Z)) (fun _ _ => rfl) ?_
  refine eR.call (k' := 136) (as := [.ref 23, .int (nI 1), .int (nI 1)]) (rest := []) (v := none) (h1 := (Wd C e (P.1, 0) (Q.1, 0) m1 N1 R (ri true 0 1) Z)) rfl rfl rfl rfl (eg (Nat.le_of_ble_eq_true rfl) (show 22 ≤ lo by omega) (Nat.le_of_ble_eq_true rfl)) (m_refIf (b := true) (show 21 ≤ lo - 22 by omega) (by decide)) ?_
  rw [show ri true 0 1 = 1 from rfl]
  refine eR.step 2 (F' := (121, [(0, .ref 23), (1, .int (nI (f))), (2, .int (nI 0)), (3, .int (nI (p)))], [.int (nI 1)])) (h' := (Wd C e (P.1, 0) (Q.1, 0) m1 N1 R 1 Z)) (fun _ _ => rfl) ?_
  refine eR.ifc rfl false ((nc_eq (b := 0) (by omega) (by decide)).trans (decide_eq_false (by omega))) ?_
  refine eR.step 1 (F' := (125, [(0, .ref 23), (1, .int (nI (f))), (2, .int (nI 0)), (3, .int (nI (p)))], [.int (nI 0)])) (h' := (Wd C e (P.1, 0) (Q.1, 0) m1 N1 R 1 Z)) (fun _ _ => rfl) ?_
  exact eR.ret rfl rfl rfl
theorem m_linkB2 {cm sm fr lo : Nat} {C : gC} {e : Nat → Nat} {P Q : gT} {m : Nat} {N : Nat → Nat} {R : gS} {t : Nat} {Z : mj_H} (hlo : 159 ≤ lo) (V : qV e) (hN : ∀ k, N k < 256) (ht : ∀ k, P.1 k < 65536) (hl : P.2 ≤ 40) (ht2 : ∀ k, Q.1 k < 65536) (hl2 : Q.2 ≤ 40) {p f m1 : Nat} {N1 : Nat → Nat} (hf0 : fo e Q N = f) (hp0 : ab e P (pP Q.1 Q.2 N).2.2 = p) (hm0 : (pP P.1 P.2 (pP Q.1 Q.2 N).2.2).2.1 = m1) (hN0 : (pP P.1 P.2 (pP Q.1 Q.2 N).2.2).2.2 = N1) (h11 : e 11 = 1) (hpn : ¬ p = 0) (hfn : ¬ f = 0) (hm1 : 1 ≤ m1) (hm2 : m1 ≤ 20) (hN1 : ∀ k, N1 k < 256) (hp : p < 16) (hf : f < 16) (hD : gD e p) (hk : ¬ e (32 + (16 * f)) = 2) (hF : fd e p (fun q => N1 (7 * (m1 - 1) + q)) 2 (sn e p - 2) = 0) (h8 : e (32 + (16 * f) + 1) = 255) : eE mm_P cm sm (fr + 8) lo 141 [.ref 23] (Wd C e P Q m N R t Z) (.inl (some (.int (nI 0))), (Wd C e (P.1, 0) (Q.1, 0) m1 N1 R 1 Z)) := by
  refine eE.of ?_
  have htf := tf_le e p
  have htg := tf_le e f
  refine eR.step 2 (F' := (2, [(0, .ref 23)], [.int (nI 1), .ref 23])) (h' := (Wd C e P Q m N R t Z)) (fun _ _ => rfl) ?_
  refine eR.call (k' := 142) (as := [.ref 23, .int (nI 1)]) (rest := []) (v := some (.int (nI (fo e Q N)))) (h1 := (Wd C e P (Q.1, 0) (pP Q.1 Q.2 N).2.1 (pP Q.1 Q.2 N).2.2 R (tf e (fo e Q N)) Z)) rfl rfl rfl rfl (eg (Nat.le_of_ble_eq_true rfl) (show 23 ≤ lo by omega) (Nat.le_of_ble_eq_true rfl)) (m_found1 (show 136 ≤ lo - 23 by omega) V hN ht2 hl2) ?_
  rw [hf0]
  refine eR.step 5 (F' := (12, [(0, .ref 23), (1, .int (nI (f))), (2, .int (nI ((tf e f))))], [.ref 23])) (h' := (Wd C e P (Q.1, 0) (pP Q.1 Q.2 N).2.1 (pP Q.1 Q.2 N).2.2 R (tf e f) Z)) (fun _ _ => rfl) ?_
  refine eR.call (k' := 123) (as := [.ref 23]) (rest := []) (v := some (.int (nI (ab e P (pP Q.1 Q.2 N).2.2)))) (h1 := (Wd C e (P.1, 0) (Q.1, 0) (pP P.1 P.2 (pP Q.1 Q.2 N).2.2).2.1 (pP P.1 P.2 (pP Q.1 Q.2 N).2.2).2.2 R (tf e (ab e P (pP Q.1 Q.2 N).2.2)) Z)) rfl rfl rfl rfl (eg (Nat.le_of_ble_eq_true rfl) (show 23 ≤ lo by omega) (Nat.le_of_ble_eq_true rfl)) (m_above (show 136 ≤ lo - 23 by omega) V (pP_N hN) ht hl) ?_
  rw [hp0, hm0, hN0]
  refine eR.step 4 (F' := (21, [(0, .ref 23), (1, .int (nI (f))), (2, .int (nI ((tf e f)))), (3, .int (nI (p)))], [.int (nI ((tf e p))), .ref 23])) (h' := (Wd C e (P.1, 0) (Q.1, 0) m1 N1 R (tf e p) Z)) (fun _ _ => rfl) ?_
  rw [tf_0 h11 hpn, tf_0 h11 hfn]
  refine eR.ifc rfl false ((nc_ne (b := 0) (by omega) (by decide)).trans (decide_eq_false (by omega))) ?_
  refine eR.step 2 (F' := (32, [(0, .ref 23), (1, .int (nI (f))), (2, .int (nI 0)), (3, .int (nI (p)))], [.int (nI 0), .ref 23])) (h' := (Wd C e (P.1, 0) (Q.1, 0) m1 N1 R 0 Z)) (fun _ _ => rfl) ?_
  refine eR.sim rfl (F := (35, [(0, .ref 23), (1, .int (nI (f))), (2, .int (nI 0)), (3, .int (nI (p)))], [])) (h' := (Wd C e (P.1, 0) (Q.1, 0) m1 N1 R 0 Z)) (by rfl) ?_
  refine eR.step 2 (F' := (39, [(0, .ref 23), (1, .int (nI (f))), (2, .int (nI 0)), (3, .int (nI (p)))], [.int (nI 0)])) (h' := (Wd C e (P.1, 0) (Q.1, 0) m1 N1 R 0 Z)) (fun _ _ => rfl) ?_
  refine eR.ifc rfl false ((nc_ne (b := 0) (by omega) (by decide)).trans (decide_eq_false (by omega))) ?_
  refine eR.step 3 (F' := (45, [(0, .ref 23), (1, .int (nI (f))), (2, .int (nI 0)), (3, .int (nI (p)))], [.int (nI (f)), .ref 23, .ref 23])) (h' := (Wd C e (P.1, 0) (Q.1, 0) m1 N1 R 0 Z)) (fun _ _ => rfl) ?_
  have h6 := V.B.dk.1 (32 + (16 * f))
  refine eR.call (k' := 128) (as := [.ref 23, .int (nI (f))]) (rest := [.ref 23]) (v := some (.int (nI (e (32 + (16 * f)))))) (h1 := (Wd C e (P.1, 0) (Q.1, 0) m1 N1 R 0 Z)) rfl rfl rfl rfl (eg (Nat.le_of_ble_eq_true rfl) (show 21 ≤ lo by omega) (Nat.le_of_ble_eq_true rfl)) (m_kind (show 20 ≤ lo - 21 by omega) hf) ?_
  refine eR.step 1 (F' := (49, [(0, .ref 23), (1, .int (nI (f))), (2, .int (nI 0)), (3, .int (nI (p)))], [.int (nI 2), .int (nI (e (32 + (16 * f)))), .ref 23])) (h' := (Wd C e (P.1, 0) (Q.1, 0) m1 N1 R 0 Z)) (fun _ _ => rfl) ?_
  refine eR.icmp rfl true ((nc_ne (by omega) (by omega)).trans (decide_eq_true (by omega))) ?_
  refine eR.step 2 (F' := (58, [(0, .ref 23), (1, .int (nI (f))), (2, .int (nI 0)), (3, .int (nI (p)))], [.int (nI 3), .int (nI 0), .ref 23])) (h' := (Wd C e (P.1, 0) (Q.1, 0) m1 N1 R 0 Z)) (fun _ _ => rfl) ?_
  refine eR.call (k' := 136) (as := [.ref 23, .int (nI 0), .int (nI 3)]) (rest := []) (v := none) (h1 := (Wd C e (P.1, 0) (Q.1, 0) m1 N1 R (ri false 0 3) Z)) rfl rfl rfl rfl (eg (Nat.le_of_ble_eq_true rfl) (show 22 ≤ lo by omega) (Nat.le_of_ble_eq_true rfl)) (m_refIf (b := false) (show 21 ≤ lo - 22 by omega) (by decide)) ?_
  rw [show ri false 0 3 = 0 from rfl]
  refine eR.step 6 (F' := (69, [(0, .ref 23), (1, .int (nI (f))), (2, .int (nI 0)), (3, .int (nI (p)))], [.int (nI 1), .int (nI (m1)), .int (nI (p)), .ref 23, .ref 23])) (h' := (Wd C e (P.1, 0) (Q.1, 0) m1 N1 R 0 Z)) (fun _ _ => rfl) ?_
  refine eR.nsub rfl (by omega) ?_
  refine eR.call (k' := 129) (as := [.ref 23, .int (nI (p)), .int (nI (m1 - 1))]) (rest := [.ref 23]) (v := some (.int (fi (fd e p (fun q => N1 (7 * (m1 - 1) + q)) 2 (sn e p - 2))))) (h1 := (Wd C e (P.1, 0) (Q.1, 0) m1 N1 R 0 Z)) rfl rfl rfl rfl (eg (Nat.le_of_ble_eq_true rfl) (show 24 ≤ lo by omega) (Nat.le_of_ble_eq_true rfl)) (m_slotOf (show 88 ≤ lo - 24 by omega) V.B.dk hD (fun k => Nat.lt_trans (hN1 k) (by decide)) (by omega)) ?_
  have h7 := V.B.dk.1 (32 + (16 * f) + 1)
  refine eR.ifc rfl false (mc_gi0 hF) ?_
  refine eR.step 3 (F' := (81, [(0, .ref 23), (1, .int (nI (f))), (2, .int (nI 0)), (3, .int (nI (p)))], [.int (nI (f)), .ref 24, .ref 23])) (h' := (Wd C e (P.1, 0) (Q.1, 0) m1 N1 R 0 Z)) (fun _ _ => rfl) ?_
  refine eR.call (k' := 111) (as := [.int (nI (f))]) (rest := [.ref 24, .ref 23]) (v := some (.int (nI (32 + (16 * f))))) (h1 := (Wd C e (P.1, 0) (Q.1, 0) m1 N1 R 0 Z)) rfl rfl rfl rfl (eg (Nat.le_of_ble_eq_true rfl) (show 20 ≤ lo by omega) (Nat.le_of_ble_eq_true rfl)) (m_at (by omega)) ?_
  refine eR.step 1 (F' := (85, [(0, .ref 23), (1, .int (nI (f))), (2, .int (nI 0)), (3, .int (nI (p)))], [.int (nI 1), .int (nI (32 + (16 * f))), .ref 24, .ref 23])) (h' := (Wd C e (P.1, 0) (Q.1, 0) m1 N1 R 0 Z)) (fun _ _ => rfl) ?_
  refine eR.nadd rfl ?_
  refine eR.ld24 rfl (by omega) ?_
  refine eR.step 1 (F' := (90, [(0, .ref 23), (1, .int (nI (f))), (2, .int (nI 0)), (3, .int (nI (p)))], [.int (nI 255), .int (nI (e ((32 + (16 * f)) + 1))), .ref 23])) (h' := (Wd C e (P.1, 0) (Q.1, 0) m1 N1 R 0 Z)) (fun _ _ => rfl) ?_
  refine eR.icmp rfl true ((nc_eq (by omega) (by omega)).trans (decide_eq_true (by omega))) ?_
  refine eR.step 3 (F' := (114, [(0, .ref 23), (1, .int (nI (f))), (2, .int (nI 0)), (3, .int (nI (p)))], [.int (nI 1), .int (nI 1), .ref 23])) (h' := (Wd C e (P.1, 0) (Q.1, 0) m1 N1 R 0 Z)) (fun _ _ => rfl) ?_
  refine eR.call (k' := 136) (as := [.ref 23, .int (nI 1), .int (nI 1)]) (rest := []) (v := none) (h1 := (Wd C e (P.1, 0) (Q.1, 0) m1 N1 R (ri true 0 1) Z)) rfl rfl rfl rfl (eg (Nat.le_of_ble_eq_true rfl) (show 22 ≤ lo by omega) (Nat.le_of_ble_eq_true rfl)) (m_refIf (b := true) (show 21 ≤ lo - 22 by omega) (by decide)) ?_
  rw [show ri true 0 1 = 1 from rfl]
  refine eR.step 2 (F' := (121, [(0, .ref 23), (1, .int (nI (f))), (2, .int (nI 0)), (3, .int (nI (p)))], [.int (nI 1)])) (h' := (Wd C e (P.1, 0) (Q.1, 0) m1 N1 R 1 Z)) (fun _ _ => rfl) ?_
  refine eR.ifc rfl false ((nc_eq (b := 0) (by omega) (by decide)).trans (decide_eq_false (by omega))) ?_
  refine eR.step 1 (F' := (125, [(0, .ref 23), (1, .int (nI (f))), (2, .int (nI 0)), (3, .int (nI (p)))], [.int (nI 0)])) (h' := (Wd C e (P.1, 0) (Q.1, 0) m1 N1 R 1 Z)) (fun _ _ => rfl) ?_
  exact eR.ret rfl rfl rfl
theorem m_linkB3 {cm sm fr lo : Nat} {C : gC} {e : Nat → Nat} {P Q : gT} {m : Nat} {N : Nat → Nat} {R : gS} {t : Nat} {Z : mj_H} (hlo : 159 ≤ lo) (V : qV e) (hN : ∀ k, N k < 256) (ht : ∀ k, P.1 k < 65536) (hl : P.2 ≤ 40) (ht2 : ∀ k, Q.1 k < 65536) (hl2 : Q.2 ≤ 40) {p f m1 : Nat} {N1 : Nat → Nat} (hf0 : fo e Q N = f) (hp0 : ab e P (pP Q.1 Q.2 N).2.2 = p) (hm0 : (pP P.1 P.2 (pP Q.1 Q.2 N).2.2).2.1 = m1) (hN0 : (pP P.1 P.2 (pP Q.1 Q.2 N).2.2).2.2 = N1) (h11 : e 11 = 1) (hpn : ¬ p = 0) (hfn : ¬ f = 0) (hm1 : 1 ≤ m1) (hm2 : m1 ≤ 20) (hN1 : ∀ k, N1 k < 256) (hp : p < 16) (hf : f < 16) (hD : gD e p) (hk : ¬ e (32 + (16 * f)) = 2) (hF : fd e p (fun q => N1 (7 * (m1 - 1) + q)) 2 (sn e p - 2) = 0) (h8 : ¬ e (32 + (16 * f) + 1) = 255) (hr : cf e 3 0 64 < rN e p) : eE mm_P cm sm (fr + 8) lo 141 [.ref 23] (Wd C e P Q m N R t Z) (.inl (some (.int (nI 0))), (Wd C e (P.1, 0) (Q.1, 0) m1 N1 R 1 Z)) := by
  refine eE.of ?_
  have htf := tf_le e p
  have htg := tf_le e f
  refine eR.step 2 (F' := (2, [(0, .ref 23)], [.int (nI 1), .ref 23])) (h' := (Wd C e P Q m N R t Z)) (fun _ _ => rfl) ?_
  refine eR.call (k' := 142) (as := [.ref 23, .int (nI 1)]) (rest := []) (v := some (.int (nI (fo e Q N)))) (h1 := (Wd C e P (Q.1, 0) (pP Q.1 Q.2 N).2.1 (pP Q.1 Q.2 N).2.2 R (tf e (fo e Q N)) Z)) rfl rfl rfl rfl (eg (Nat.le_of_ble_eq_true rfl) (show 23 ≤ lo by omega) (Nat.le_of_ble_eq_true rfl)) (m_found1 (show 136 ≤ lo - 23 by omega) V hN ht2 hl2) ?_
  rw [hf0]
  refine eR.step 5 (F' := (12, [(0, .ref 23), (1, .int (nI (f))), (2, .int (nI ((tf e f))))], [.ref 23])) (h' := (Wd C e P (Q.1, 0) (pP Q.1 Q.2 N).2.1 (pP Q.1 Q.2 N).2.2 R (tf e f) Z)) (fun _ _ => rfl) ?_
  refine eR.call (k' := 123) (as := [.ref 23]) (rest := []) (v := some (.int (nI (ab e P (pP Q.1 Q.2 N).2.2)))) (h1 := (Wd C e (P.1, 0) (Q.1, 0) (pP P.1 P.2 (pP Q.1 Q.2 N).2.2).2.1 (pP P.1 P.2 (pP Q.1 Q.2 N).2.2).2.2 R (tf e (ab e P (pP Q.1 Q.2 N).2.2)) Z)) rfl rfl rfl rfl (eg (Nat.le_of_ble_eq_true rfl) (show 23 ≤ lo by omega) (Nat.le_of_ble_eq_true rfl)) (m_above (show 136 ≤ lo - 23 by omega) V (pP_N hN) ht hl) ?_
  rw [hp0, hm0, hN0]
  refine eR.step 4 (F' := (21, [(0, .ref 23), (1, .int (nI (f))), (2, .int (nI ((tf e f)))), (3, .int (nI (p)))], [.int (nI ((tf e p))), .ref 23])) (h' := (Wd C e (P.1, 0) (Q.1, 0) m1 N1 R (tf e p) Z)) (fun _ _ => rfl) ?_
  rw [tf_0 h11 hpn, tf_0 h11 hfn]
  refine eR.ifc rfl false ((nc_ne (b := 0) (by omega) (by decide)).trans (decide_eq_false (by omega))) ?_
  refine eR.step 2 (F' := (32, [(0, .ref 23), (1, .int (nI (f))), (2, .int (nI 0)), (3, .int (nI (p)))], [.int (nI 0), .ref 23])) (h' := (Wd C e (P.1, 0) (Q.1, 0) m1 N1 R 0 Z)) (fun _ _ => rfl) ?_
  refine eR.sim rfl (F := (35, [(0, .ref 23), (1, .int (nI (f))), (2, .int (nI 0)), (3, .int (nI (p)))], [])) (h' := (Wd C e (P.1, 0) (Q.1, 0) m1 N1 R 0 Z)) (by rfl) ?_
  refine eR.step 2 (F' := (39, [(0, .ref 23), (1, .int (nI (f))), (2, .int (nI 0)), (3, .int (nI (p)))], [.int (nI 0)])) (h' := (Wd C e (P.1, 0) (Q.1, 0) m1 N1 R 0 Z)) (fun _ _ => rfl) ?_
  refine eR.ifc rfl false ((nc_ne (b := 0) (by omega) (by decide)).trans (decide_eq_false (by omega))) ?_
  refine eR.step 3 (F' := (45, [(0, .ref 23), (1, .int (nI (f))), (2, .int (nI 0)), (3, .int (nI (p)))], [.int (nI (f)), .ref 23, .ref 23])) (h' := (Wd C e (P.1, 0) (Q.1, 0) m1 N1 R 0 Z)) (fun _ _ => rfl) ?_
  have h6 := V.B.dk.1 (32 + (16 * f))
  refine eR.call (k' := 128) (as := [.ref 23, .int (nI (f))]) (rest := [.ref 23]) (v := some (.int (nI (e (32 + (16 * f)))))) (h1 := (Wd C e (P.1, 0) (Q.1, 0) m1 N1 R 0 Z)) rfl rfl rfl rfl (eg (Nat.le_of_ble_eq_true rfl) (show 21 ≤ lo by omega) (Nat.le_of_ble_eq_true rfl)) (m_kind (show 20 ≤ lo - 21 by omega) hf) ?_
  refine eR.step 1 (F' := (49, [(0, .ref 23), (1, .int (nI (f))), (2, .int (nI 0)), (3, .int (nI (p)))], [.int (nI 2), .int (nI (e (32 + (16 * f)))), .ref 23])) (h' := (Wd C e (P.1, 0) (Q.1, 0) m1 N1 R 0 Z)) (fun _ _ => rfl) ?_
  refine eR.icmp rfl true ((nc_ne (by omega) (by omega)).trans (decide_eq_true (by omega))) ?_
  refine eR.step 2 (F' := (58, [(0, .ref 23), (1, .int (nI (f))), (2, .int (nI 0)), (3, .int (nI (p)))], [.int (nI 3), .int (nI 0), .ref 23])) (h' := (Wd C e (P.1, 0) (Q.1, 0) m1 N1 R 0 Z)) (fun _ _ => rfl) ?_
  refine eR.call (k' := 136) (as := [.ref 23, .int (nI 0), .int (nI 3)]) (rest := []) (v := none) (h1 := (Wd C e (P.1, 0) (Q.1, 0) m1 N1 R (ri false 0 3) Z)) rfl rfl rfl rfl (eg (Nat.le_of_ble_eq_true rfl) (show 22 ≤ lo by omega) (Nat.le_of_ble_eq_true rfl)) (m_refIf (b := false) (show 21 ≤ lo - 22 by omega) (by decide)) ?_
  rw [show ri false 0 3 = 0 from rfl]
  refine eR.step 6 (F' := (69, [(0, .ref 23), (1, .int (nI (f))), (2, .int (nI 0)), (3, .int (nI (p)))], [.int (nI 1), .int (nI (m1)), .int (nI (p)), .ref 23, .ref 23])) (h' := (Wd C e (P.1, 0) (Q.1, 0) m1 N1 R 0 Z)) (fun _ _ => rfl) ?_
  refine eR.nsub rfl (by omega) ?_
  refine eR.call (k' := 129) (as := [.ref 23, .int (nI (p)), .int (nI (m1 - 1))]) (rest := [.ref 23]) (v := some (.int (fi (fd e p (fun q => N1 (7 * (m1 - 1) + q)) 2 (sn e p - 2))))) (h1 := (Wd C e (P.1, 0) (Q.1, 0) m1 N1 R 0 Z)) rfl rfl rfl rfl (eg (Nat.le_of_ble_eq_true rfl) (show 24 ≤ lo by omega) (Nat.le_of_ble_eq_true rfl)) (m_slotOf (show 88 ≤ lo - 24 by omega) V.B.dk hD (fun k => Nat.lt_trans (hN1 k) (by decide)) (by omega)) ?_
  have h7 := V.B.dk.1 (32 + (16 * f) + 1)
  refine eR.ifc rfl false (mc_gi0 hF) ?_
  refine eR.step 3 (F' := (81, [(0, .ref 23), (1, .int (nI (f))), (2, .int (nI 0)), (3, .int (nI (p)))], [.int (nI (f)), .ref 24, .ref 23])) (h' := (Wd C e (P.1, 0) (Q.1, 0) m1 N1 R 0 Z)) (fun _ _ => rfl) ?_
  refine eR.call (k' := 111) (as := [.int (nI (f))]) (rest := [.ref 24, .ref 23]) (v := some (.int (nI (32 + (16 * f))))) (h1 := (Wd C e (P.1, 0) (Q.1, 0) m1 N1 R 0 Z)) rfl rfl rfl rfl (eg (Nat.le_of_ble_eq_true rfl) (show 20 ≤ lo by omega) (Nat.le_of_ble_eq_true rfl)) (m_at (by omega)) ?_
  refine eR.step 1 (F' := (85, [(0, .ref 23), (1, .int (nI (f))), (2, .int (nI 0)), (3, .int (nI (p)))], [.int (nI 1), .int (nI (32 + (16 * f))), .ref 24, .ref 23])) (h' := (Wd C e (P.1, 0) (Q.1, 0) m1 N1 R 0 Z)) (fun _ _ => rfl) ?_
  refine eR.nadd rfl ?_
  refine eR.ld24 rfl (by omega) ?_
  refine eR.step 1 (F' := (90, [(0, .ref 23), (1, .int (nI (f))), (2, .int (nI 0)), (3, .int (nI (p)))], [.int (nI 255), .int (nI (e ((32 + (16 * f)) + 1))), .ref 23])) (h' := (Wd C e (P.1, 0) (Q.1, 0) m1 N1 R 0 Z)) (fun _ _ => rfl) ?_
  refine eR.icmp rfl false ((nc_eq (by omega) (by omega)).trans (decide_eq_false (by omega))) ?_
  have hB3 := cf_b e 3 64 0
  have hR1 := rN_le e p
  refine eR.step 2 (F' := (95, [(0, .ref 23), (1, .int (nI (f))), (2, .int (nI 0)), (3, .int (nI (p)))], [.int (nI (p)), .ref 23, .ref 23])) (h' := (Wd C e (P.1, 0) (Q.1, 0) m1 N1 R 0 Z)) (fun _ _ => rfl) ?_
  refine eR.call (k' := 134) (as := [.ref 23, .int (nI (p))]) (rest := [.ref 23]) (v := some (.int (nI (rN e p)))) (h1 := (Wd C e (P.1, 0) (Q.1, 0) m1 N1 R 0 Z)) rfl rfl rfl rfl (eg (Nat.le_of_ble_eq_true rfl) (show 21 ≤ lo by omega) (Nat.le_of_ble_eq_true rfl)) (m_room (show 110 ≤ lo - 21 by omega) V.B.dk hD) ?_
  refine eR.step 3 (F' := (102, [(0, .ref 23), (1, .int (nI (f))), (2, .int (nI 0)), (3, .int (nI (p)))], [.int (nI 64), .int (nI 3), .ref 23, .int (nI (rN e p)), .ref 23])) (h' := (Wd C e (P.1, 0) (Q.1, 0) m1 N1 R 0 Z)) (fun _ _ => rfl) ?_
  refine eR.call (k' := 133) (as := [.ref 23, .int (nI 3), .int (nI 64)]) (rest := [.int (nI (rN e p)), .ref 23]) (v := some (.int (nI (cf e 3 0 64)))) (h1 := (Wd C e (P.1, 0) (Q.1, 0) m1 N1 R 0 Z)) rfl rfl rfl rfl (eg (Nat.le_of_ble_eq_true rfl) (show 24 ≤ lo by omega) (Nat.le_of_ble_eq_true rfl)) (m_free (show 22 ≤ lo - 24 by omega) V.B.dk (by decide) (by decide)) ?_
  refine eR.icmp rfl false ((nc_le (by omega) (by omega)).trans (decide_eq_false (by omega))) ?_
  refine eR.step 3 (F' := (114, [(0, .ref 23), (1, .int (nI (f))), (2, .int (nI 0)), (3, .int (nI (p)))], [.int (nI 1), .int (nI 1), .ref 23])) (h' := (Wd C e (P.1, 0) (Q.1, 0) m1 N1 R 0 Z)) (fun _ _ => rfl) ?_
  refine eR.call (k' := 136) (as := [.ref 23, .int (nI 1), .int (nI 1)]) (rest := []) (v := none) (h1 := (Wd C e (P.1, 0) (Q.1, 0) m1 N1 R (ri true 0 1) Z)) rfl rfl rfl rfl (eg (Nat.le_of_ble_eq_true rfl) (show 22 ≤ lo by omega) (Nat.le_of_ble_eq_true rfl)) (m_refIf (b := true) (show 21 ≤ lo - 22 by omega) (by decide)) ?_
  rw [show ri true 0 1 = 1 from rfl]
  refine eR.step 2 (F' := (121, [(0, .ref 23), (1, .int (nI (f))), (2, .int (nI 0)), (3, .int (nI (p)))], [.int (nI 1)])) (h' := (Wd C e (P.1, 0) (Q.1, 0) m1 N1 R 1 Z)) (fun _ _ => rfl) ?_
  refine eR.ifc rfl false ((nc_eq (b := 0) (by omega) (by decide)).trans (decide_eq_false (by omega))) ?_
  refine eR.step 1 (F' := (125, [(0, .ref 23), (1, .int (nI (f))), (2, .int (nI 0)), (3, .int (nI (p)))], [.int (nI 0)])) (h' := (Wd C e (P.1, 0) (Q.1, 0) m1 N1 R 1 Z)) (fun _ _ => rfl) ?_
  exact eR.ret rfl rfl rfl
theorem m_link {cm sm fr lo : Nat} {C : gC} {e : Nat → Nat} {P Q : gT} {m : Nat} {N : Nat → Nat} {R : gS} {t : Nat} {Z : mj_H} (hlo : 159 ≤ lo) (V : qV e) (hN : ∀ k, N k < 256) (ht : ∀ k, P.1 k < 65536) (hl : P.2 ≤ 40) (ht2 : ∀ k, Q.1 k < 65536) (hl2 : Q.2 ≤ 40) {p f m1 : Nat} {N1 : Nat → Nat} (hf0 : fo e Q N = f) (hp0 : ab e P (pP Q.1 Q.2 N).2.2 = p) (hm0 : (pP P.1 P.2 (pP Q.1 Q.2 N).2.2).2.1 = m1) (hN0 : (pP P.1 P.2 (pP Q.1 Q.2 N).2.2).2.2 = N1) (h11 : e 11 = 1) (hpn : ¬ p = 0) (hfn : ¬ f = 0) (hm1 : 1 ≤ m1) (hm2 : m1 ≤ 20) (hN1 : ∀ k, N1 k < 256) (hp : p < 16) (hf : f < 16) (hD : gD e p) (hk : ¬ e (32 + (16 * f)) = 2) (hF : fd e p (fun q => N1 (7 * (m1 - 1) + q)) 2 (sn e p - 2) = 0) (h8 : ¬ e (32 + (16 * f) + 1) = 255) (hr : ¬ cf e 3 0 64 < rN e p) (k2 : e (32 + (16 * p)) = 2) (hn : nsl e p ≠ 0) (hc2 : bw e p (nsl e p / 4) (nsl e p / 4) ≤ cf e 3 9 55) (hl3 : (rA e p f (fun q => N1 (7 * (m1 - 1) + q))) (32 + (16 * f) + 1) < 255) : eE mm_P cm sm (fr + 8) lo 141 [.ref 23] (Wd C e P Q m N R t Z) (.inl (some (.int (nI ((al (rA e p f (fun q => N1 (7 * (m1 - 1) + q))) f 1) (32 + (16 * f) + 1))))), (Wd C (al (rA e p f (fun q => N1 (7 * (m1 - 1) + q))) f 1) (P.1, 0) (Q.1, 0) m1 N1 R 0 Z)) := by
  refine eE.of ?_
  have htf := tf_le e p
  have htg := tf_le e f
  refine eR.step 2 (F' := (2, [(0, .ref 23)], [.int (nI 1), .ref 23])) (h' := (Wd C e P Q m N R t Z)) (fun _ _ => rfl) ?_
  refine eR.call (k' := 142) (as := [.ref 23, .int (nI 1)]) (rest := []) (v := some (.int (nI (fo e Q N)))) (h1 := (Wd C e P (Q.1, 0) (pP Q.1 Q.2 N).2.1 (pP Q.1 Q.2 N).2.2 R (tf e (fo e Q N)) Z)) rfl rfl rfl rfl (eg (Nat.le_of_ble_eq_true rfl) (show 23 ≤ lo by omega) (Nat.le_of_ble_eq_true rfl)) (m_found1 (show 136 ≤ lo - 23 by omega) V hN ht2 hl2) ?_
  rw [hf0]
  refine eR.step 5 (F' := (12, [(0, .ref 23), (1, .int (nI (f))), (2, .int (nI ((tf e f))))], [.ref 23])) (h' := (Wd C e P (Q.1, 0) (pP Q.1 Q.2 N).2.1 (pP Q.1 Q.2 N).2.2 R (tf e f) Z)) (fun _ _ => rfl) ?_
  refine eR.call (k' := 123) (as := [.ref 23]) (rest := []) (v := some (.int (nI (ab e P (pP Q.1 Q.2 N).2.2)))) (h1 := (Wd C e (P.1, 0) (Q.1, 0) (pP P.1 P.2 (pP Q.1 Q.2 N).2.2).2.1 (pP P.1 P.2 (pP Q.1 Q.2 N).2.2).2.2 R (tf e (ab e P (pP Q.1 Q.2 N).2.2)) Z)) rfl rfl rfl rfl (eg (Nat.le_of_ble_eq_true rfl) (show 23 ≤ lo by omega) (Nat.le_of_ble_eq_true rfl)) (m_above (show 136 ≤ lo - 23 by omega) V (pP_N hN) ht hl) ?_
  rw [hp0, hm0, hN0]
  refine eR.step 4 (F' := (21, [(0, .ref 23), (1, .int (nI (f))), (2, .int (nI ((tf e f)))), (3, .int (nI (p)))], [.int (nI ((tf e p))), .ref 23])) (h' := (Wd C e (P.1, 0) (Q.1, 0) m1 N1 R (tf e p) Z)) (fun _ _ => rfl) ?_
  rw [tf_0 h11 hpn, tf_0 h11 hfn]
  refine eR.ifc rfl false ((nc_ne (b := 0) (by omega) (by decide)).trans (decide_eq_false (by omega))) ?_
  refine eR.step 2 (F' := (32, [(0, .ref 23), (1, .int (nI (f))), (2, .int (nI 0)), (3, .int (nI (p)))], [.int (nI 0), .ref 23])) (h' := (Wd C e (P.1, 0) (Q.1, 0) m1 N1 R 0 Z)) (fun _ _ => rfl) ?_
  refine eR.sim rfl (F := (35, [(0, .ref 23), (1, .int (nI (f))), (2, .int (nI 0)), (3, .int (nI (p)))], [])) (h' := (Wd C e (P.1, 0) (Q.1, 0) m1 N1 R 0 Z)) (by rfl) ?_
  refine eR.step 2 (F' := (39, [(0, .ref 23), (1, .int (nI (f))), (2, .int (nI 0)), (3, .int (nI (p)))], [.int (nI 0)])) (h' := (Wd C e (P.1, 0) (Q.1, 0) m1 N1 R 0 Z)) (fun _ _ => rfl) ?_
  refine eR.ifc rfl false ((nc_ne (b := 0) (by omega) (by decide)).trans (decide_eq_false (by omega))) ?_
  refine eR.step 3 (F' := (45, [(0, .ref 23), (1, .int (nI (f))), (2, .int (nI 0)), (3, .int (nI (p)))], [.int (nI (f)), .ref 23, .ref 23])) (h' := (Wd C e (P.1, 0) (Q.1, 0) m1 N1 R 0 Z)) (fun _ _ => rfl) ?_
  have h6 := V.B.dk.1 (32 + (16 * f))
  refine eR.call (k' := 128) (as := [.ref 23, .int (nI (f))]) (rest := [.ref 23]) (v := some (.int (nI (e (32 + (16 * f)))))) (h1 := (Wd C e (P.1, 0) (Q.1, 0) m1 N1 R 0 Z)) rfl rfl rfl rfl (eg (Nat.le_of_ble_eq_true rfl) (show 21 ≤ lo by omega) (Nat.le_of_ble_eq_true rfl)) (m_kind (show 20 ≤ lo - 21 by omega) hf) ?_
  refine eR.step 1 (F' := (49, [(0, .ref 23), (1, .int (nI (f))), (2, .int (nI 0)), (3, .int (nI (p)))], [.int (nI 2), .int (nI (e (32 + (16 * f)))), .ref 23])) (h' := (Wd C e (P.1, 0) (Q.1, 0) m1 N1 R 0 Z)) (fun _ _ => rfl) ?_
  refine eR.icmp rfl true ((nc_ne (by omega) (by omega)).trans (decide_eq_true (by omega))) ?_
  refine eR.step 2 (F' := (58, [(0, .ref 23), (1, .int (nI (f))), (2, .int (nI 0)), (3, .int (nI (p)))], [.int (nI 3), .int (nI 0), .ref 23])) (h' := (Wd C e (P.1, 0) (Q.1, 0) m1 N1 R 0 Z)) (fun _ _ => rfl) ?_
  refine eR.call (k' := 136) (as := [.ref 23, .int (nI 0), .int (nI 3)]) (rest := []) (v := none) (h1 := (Wd C e (P.1, 0) (Q.1, 0) m1 N1 R (ri false 0 3) Z)) rfl rfl rfl rfl (eg (Nat.le_of_ble_eq_true rfl) (show 22 ≤ lo by omega) (Nat.le_of_ble_eq_true rfl)) (m_refIf (b := false) (show 21 ≤ lo - 22 by omega) (by decide)) ?_
  rw [show ri false 0 3 = 0 from rfl]
  refine eR.step 6 (F' := (69, [(0, .ref 23), (1, .int (nI (f))), (2, .int (nI 0)), (3, .int (nI (p)))], [.int (nI 1), .int (nI (m1)), .int (nI (p)), .ref 23, .ref 23])) (h' := (Wd C e (P.1, 0) (Q.1, 0) m1 N1 R 0 Z)) (fun _ _ => rfl) ?_
  refine eR.nsub rfl (by omega) ?_
  refine eR.call (k' := 129) (as := [.ref 23, .int (nI (p)), .int (nI (m1 - 1))]) (rest := [.ref 23]) (v := some (.int (fi (fd e p (fun q => N1 (7 * (m1 - 1) + q)) 2 (sn e p - 2))))) (h1 := (Wd C e (P.1, 0) (Q.1, 0) m1 N1 R 0 Z)) rfl rfl rfl rfl (eg (Nat.le_of_ble_eq_true rfl) (show 24 ≤ lo by omega) (Nat.le_of_ble_eq_true rfl)) (m_slotOf (show 88 ≤ lo - 24 by omega) V.B.dk hD (fun k => Nat.lt_trans (hN1 k) (by decide)) (by omega)) ?_
  have h7 := V.B.dk.1 (32 + (16 * f) + 1)
  refine eR.ifc rfl false (mc_gi0 hF) ?_
  refine eR.step 3 (F' := (81, [(0, .ref 23), (1, .int (nI (f))), (2, .int (nI 0)), (3, .int (nI (p)))], [.int (nI (f)), .ref 24, .ref 23])) (h' := (Wd C e (P.1, 0) (Q.1, 0) m1 N1 R 0 Z)) (fun _ _ => rfl) ?_
  refine eR.call (k' := 111) (as := [.int (nI (f))]) (rest := [.ref 24, .ref 23]) (v := some (.int (nI (32 + (16 * f))))) (h1 := (Wd C e (P.1, 0) (Q.1, 0) m1 N1 R 0 Z)) rfl rfl rfl rfl (eg (Nat.le_of_ble_eq_true rfl) (show 20 ≤ lo by omega) (Nat.le_of_ble_eq_true rfl)) (m_at (by omega)) ?_
  refine eR.step 1 (F' := (85, [(0, .ref 23), (1, .int (nI (f))), (2, .int (nI 0)), (3, .int (nI (p)))], [.int (nI 1), .int (nI (32 + (16 * f))), .ref 24, .ref 23])) (h' := (Wd C e (P.1, 0) (Q.1, 0) m1 N1 R 0 Z)) (fun _ _ => rfl) ?_
  refine eR.nadd rfl ?_
  refine eR.ld24 rfl (by omega) ?_
  refine eR.step 1 (F' := (90, [(0, .ref 23), (1, .int (nI (f))), (2, .int (nI 0)), (3, .int (nI (p)))], [.int (nI 255), .int (nI (e ((32 + (16 * f)) + 1))), .ref 23])) (h' := (Wd C e (P.1, 0) (Q.1, 0) m1 N1 R 0 Z)) (fun _ _ => rfl) ?_
  refine eR.icmp rfl false ((nc_eq (by omega) (by omega)).trans (decide_eq_false (by omega))) ?_
  have hB3 := cf_b e 3 64 0
  have hR1 := rN_le e p
  refine eR.step 2 (F' := (95, [(0, .ref 23), (1, .int (nI (f))), (2, .int (nI 0)), (3, .int (nI (p)))], [.int (nI (p)), .ref 23, .ref 23])) (h' := (Wd C e (P.1, 0) (Q.1, 0) m1 N1 R 0 Z)) (fun _ _ => rfl) ?_
  refine eR.call (k' := 134) (as := [.ref 23, .int (nI (p))]) (rest := [.ref 23]) (v := some (.int (nI (rN e p)))) (h1 := (Wd C e (P.1, 0) (Q.1, 0) m1 N1 R 0 Z)) rfl rfl rfl rfl (eg (Nat.le_of_ble_eq_true rfl) (show 21 ≤ lo by omega) (Nat.le_of_ble_eq_true rfl)) (m_room (show 110 ≤ lo - 21 by omega) V.B.dk hD) ?_
  refine eR.step 3 (F' := (102, [(0, .ref 23), (1, .int (nI (f))), (2, .int (nI 0)), (3, .int (nI (p)))], [.int (nI 64), .int (nI 3), .ref 23, .int (nI (rN e p)), .ref 23])) (h' := (Wd C e (P.1, 0) (Q.1, 0) m1 N1 R 0 Z)) (fun _ _ => rfl) ?_
  refine eR.call (k' := 133) (as := [.ref 23, .int (nI 3), .int (nI 64)]) (rest := [.int (nI (rN e p)), .ref 23]) (v := some (.int (nI (cf e 3 0 64)))) (h1 := (Wd C e (P.1, 0) (Q.1, 0) m1 N1 R 0 Z)) rfl rfl rfl rfl (eg (Nat.le_of_ble_eq_true rfl) (show 24 ≤ lo by omega) (Nat.le_of_ble_eq_true rfl)) (m_free (show 22 ≤ lo - 24 by omega) V.B.dk (by decide) (by decide)) ?_
  refine eR.icmp rfl true ((nc_le (by omega) (by omega)).trans (decide_eq_true (by omega))) ?_
  refine eR.step 2 (F' := (114, [(0, .ref 23), (1, .int (nI (f))), (2, .int (nI 0)), (3, .int (nI (p)))], [.int (nI 1), .int (nI 0), .ref 23])) (h' := (Wd C e (P.1, 0) (Q.1, 0) m1 N1 R 0 Z)) (fun _ _ => rfl) ?_
  refine eR.call (k' := 136) (as := [.ref 23, .int (nI 0), .int (nI 1)]) (rest := []) (v := none) (h1 := (Wd C e (P.1, 0) (Q.1, 0) m1 N1 R (ri false 0 1) Z)) rfl rfl rfl rfl (eg (Nat.le_of_ble_eq_true rfl) (show 22 ≤ lo by omega) (Nat.le_of_ble_eq_true rfl)) (m_refIf (b := false) (show 21 ≤ lo - 22 by omega) (by decide)) ?_
  rw [show ri false 0 1 = 0 from rfl]
  refine eR.step 2 (F' := (121, [(0, .ref 23), (1, .int (nI (f))), (2, .int (nI 0)), (3, .int (nI (p)))], [.int (nI 0)])) (h' := (Wd C e (P.1, 0) (Q.1, 0) m1 N1 R 0 Z)) (fun _ _ => rfl) ?_
  refine eR.ifc rfl true ((nc_eq (b := 0) (by omega) (by decide)).trans (decide_eq_true (by omega))) ?_
  refine eR.step 3 (F' := (129, [(0, .ref 23), (1, .int (nI (f))), (2, .int (nI 0)), (3, .int (nI (p)))], [.int (nI (f)), .int (nI (p)), .ref 23])) (h' := (Wd C e (P.1, 0) (Q.1, 0) m1 N1 R 0 Z)) (fun _ _ => rfl) ?_
  refine eR.call (k' := 138) (as := [.ref 23, .int (nI (p)), .int (nI (f))]) (rest := []) (v := none) (h1 := (Wd C (rA e p f (fun q => N1 (7 * (m1 - 1) + q))) (P.1, 0) (Q.1, 0) m1 N1 R 0 Z)) rfl rfl rfl rfl (eg (Nat.le_of_ble_eq_true rfl) (show 25 ≤ lo by omega) (Nat.le_of_ble_eq_true rfl)) (m_addS (show 110 ≤ lo - 25 by omega) (V.E h11) hN1 hm1 hm2 hp k2 (by omega) hn hc2) ?_
  refine eR.step 3 (F' := (135, [(0, .ref 23), (1, .int (nI (f))), (2, .int (nI 0)), (3, .int (nI (p)))], [.int (nI 1), .int (nI (f)), .ref 23])) (h' := (Wd C (rA e p f (fun q => N1 (7 * (m1 - 1) + q))) (P.1, 0) (Q.1, 0) m1 N1 R 0 Z)) (fun _ _ => rfl) ?_
  refine eR.call (k' := 140) (as := [.ref 23, .int (nI (f)), .int (nI 1)]) (rest := []) (v := none) (h1 := (Wd C (al (rA e p f (fun q => N1 (7 * (m1 - 1) + q))) f 1) (P.1, 0) (Q.1, 0) m1 N1 R 0 Z)) rfl rfl rfl rfl (eg (Nat.le_of_ble_eq_true rfl) (show 22 ≤ lo by omega) (Nat.le_of_ble_eq_true rfl)) (m_addL (show 20 ≤ lo - 22 by omega) hf hl3) ?_
  refine eR.step 3 (F' := (143, [(0, .ref 23), (1, .int (nI (f))), (2, .int (nI 0)), (3, .int (nI (p)))], [.int (nI (f)), .ref 24])) (h' := (Wd C (al (rA e p f (fun q => N1 (7 * (m1 - 1) + q))) f 1) (P.1, 0) (Q.1, 0) m1 N1 R 0 Z)) (fun _ _ => rfl) ?_
  refine eR.call (k' := 111) (as := [.int (nI (f))]) (rest := [.ref 24]) (v := some (.int (nI (32 + (16 * f))))) (h1 := (Wd C (al (rA e p f (fun q => N1 (7 * (m1 - 1) + q))) f 1) (P.1, 0) (Q.1, 0) m1 N1 R 0 Z)) rfl rfl rfl rfl (eg (Nat.le_of_ble_eq_true rfl) (show 20 ≤ lo by omega) (Nat.le_of_ble_eq_true rfl)) (m_at (by omega)) ?_
  refine eR.step 1 (F' := (147, [(0, .ref 23), (1, .int (nI (f))), (2, .int (nI 0)), (3, .int (nI (p)))], [.int (nI 1), .int (nI (32 + (16 * f))), .ref 24])) (h' := (Wd C (al (rA e p f (fun q => N1 (7 * (m1 - 1) + q))) f 1) (P.1, 0) (Q.1, 0) m1 N1 R 0 Z)) (fun _ _ => rfl) ?_
  refine eR.nadd rfl ?_
  refine eR.ld24 rfl (by omega) ?_
  exact eR.ret rfl rfl rfl
theorem m_unlinkA {cm sm fr lo : Nat} {C : gC} {e : Nat → Nat} {P Q : gT} {m : Nat} {N : Nat → Nat} {R : gS} {t : Nat} {Z : mj_H} (hlo : 159 ≤ lo) (V : qV e) (hN : ∀ k, N k < 256) (ht : ∀ k, P.1 k < 65536) (hl : P.2 ≤ 40) {f m1 : Nat} {N1 : Nat → Nat} (hf0 : fo e P N = f) (hm0 : (pP P.1 P.2 N).2.1 = m1) (hN0 : (pP P.1 P.2 N).2.2 = N1) (h : ¬ tf e f = 0) : eE mm_P cm sm (fr + 8) lo 143 [.ref 23] (Wd C e P Q m N R t Z) (.inl (some (.int (nI 0))), (Wd C e (P.1, 0) Q m1 N1 R (tf e f) Z)) := by
  refine eE.of ?_
  have htf := tf_le e f
  refine eR.step 2 (F' := (2, [(0, .ref 23)], [.int (nI 0), .ref 23])) (h' := (Wd C e P Q m N R t Z)) (fun _ _ => rfl) ?_
  refine eR.call (k' := 142) (as := [.ref 23, .int (nI 0)]) (rest := []) (v := some (.int (nI (fo e P N)))) (h1 := (Wd C e (P.1, 0) Q (pP P.1 P.2 N).2.1 (pP P.1 P.2 N).2.2 R (tf e (fo e P N)) Z)) rfl rfl rfl rfl (eg (Nat.le_of_ble_eq_true rfl) (show 23 ≤ lo by omega) (Nat.le_of_ble_eq_true rfl)) (m_found0 (show 136 ≤ lo - 23 by omega) V hN ht hl) ?_
  rw [hf0, hm0, hN0]
  refine eR.step 3 (F' := (10, [(0, .ref 23), (1, .int (nI (f)))], [.int (nI ((tf e f)))])) (h' := (Wd C e (P.1, 0) Q m1 N1 R (tf e f) Z)) (fun _ _ => rfl) ?_
  refine eR.ifc rfl true ((nc_ne (b := 0) (by omega) (by decide)).trans (decide_eq_true (by omega))) ?_
  refine eR.step 2 (F' := (36, [(0, .ref 23), (1, .int (nI (f)))], [.int (nI ((tf e f)))])) (h' := (Wd C e (P.1, 0) Q m1 N1 R (tf e f) Z)) (fun _ _ => rfl) ?_
  refine eR.ifc rfl false ((nc_eq (b := 0) (by omega) (by decide)).trans (decide_eq_false (by omega))) ?_
  refine eR.step 1 (F' := (40, [(0, .ref 23), (1, .int (nI (f)))], [.int (nI 0)])) (h' := (Wd C e (P.1, 0) Q m1 N1 R (tf e f) Z)) (fun _ _ => rfl) ?_
  exact eR.ret rfl rfl rfl
theorem m_unlinkD {cm sm fr lo : Nat} {C : gC} {e : Nat → Nat} {P Q : gT} {m : Nat} {N : Nat → Nat} {R : gS} {t : Nat} {Z : mj_H} (hlo : 159 ≤ lo) (V : qV e) (hN : ∀ k, N k < 256) (ht : ∀ k, P.1 k < 65536) (hl : P.2 ≤ 40) {f m1 : Nat} {N1 : Nat → Nat} (hf0 : fo e P N = f) (hm0 : (pP P.1 P.2 N).2.1 = m1) (hN0 : (pP P.1 P.2 N).2.2 = N1) (h11 : e 11 = 1) (hfn : ¬ f = 0) (hf : f < 16) (hk : e (32 + (16 * f)) = 2) : eE mm_P cm sm (fr + 8) lo 143 [.ref 23] (Wd C e P Q m N R t Z) (.inl (some (.int (nI 0))), (Wd C e (P.1, 0) Q m1 N1 R 3 Z)) := by
  refine eE.of ?_
  have htf := tf_le e f
  refine eR.step 2 (F' := (2, [(0, .ref 23)], [.int (nI 0), .ref 23])) (h' := (Wd C e P Q m N R t Z)) (fun _ _ => rfl) ?_
  refine eR.call (k' := 142) (as := [.ref 23, .int (nI 0)]) (rest := []) (v := some (.int (nI (fo e P N)))) (h1 := (Wd C e (P.1, 0) Q (pP P.1 P.2 N).2.1 (pP P.1 P.2 N).2.2 R (tf e (fo e P N)) Z)) rfl rfl rfl rfl (eg (Nat.le_of_ble_eq_true rfl) (show 23 ≤ lo by omega) (Nat.le_of_ble_eq_true rfl)) (m_found0 (show 136 ≤ lo - 23 by omega) V hN ht hl) ?_
  rw [hf0, hm0, hN0]
  refine eR.step 3 (F' := (10, [(0, .ref 23), (1, .int (nI (f)))], [.int (nI ((tf e f)))])) (h' := (Wd C e (P.1, 0) Q m1 N1 R (tf e f) Z)) (fun _ _ => rfl) ?_
  rw [tf_0 h11 hfn]
  refine eR.ifc rfl false ((nc_ne (b := 0) (by omega) (by decide)).trans (decide_eq_false (by omega))) ?_
  refine eR.step 3 (F' := (16, [(0, .ref 23), (1, .int (nI (f)))], [.int (nI (f)), .ref 23, .ref 23])) (h' := (Wd C e (P.1, 0) Q m1 N1 R 0 Z)) (fun _ _ => rfl) ?_
  have h6 := V.B.dk.1 (32 + (16 * f))
  refine eR.call (k' := 128) (as := [.ref 23, .int (nI (f))]) (rest := [.ref 23]) (v := some (.int (nI (e (32 + (16 * f)))))) (h1 := (Wd C e (P.1, 0) Q m1 N1 R 0 Z)) rfl rfl rfl rfl (eg (Nat.le_of_ble_eq_true rfl) (show 21 ≤ lo by omega) (Nat.le_of_ble_eq_true rfl)) (m_kind (show 20 ≤ lo - 21 by omega) hf) ?_
  refine eR.step 1 (F' := (20, [(0, .ref 23), (1, .int (nI (f)))], [.int (nI 2), .int (nI (e (32 + (16 * f)))), .ref 23])) (h' := (Wd C e (P.1, 0) Q m1 N1 R 0 Z)) (fun _ _ => rfl) ?_
  refine eR.icmp rfl false ((nc_ne (by omega) (by omega)).trans (decide_eq_false (by omega))) ?_
  refine eR.step 3 (F' := (29, [(0, .ref 23), (1, .int (nI (f)))], [.int (nI 3), .int (nI 1), .ref 23])) (h' := (Wd C e (P.1, 0) Q m1 N1 R 0 Z)) (fun _ _ => rfl) ?_
  refine eR.call (k' := 136) (as := [.ref 23, .int (nI 1), .int (nI 3)]) (rest := []) (v := none) (h1 := (Wd C e (P.1, 0) Q m1 N1 R (ri true 0 3) Z)) rfl rfl rfl rfl (eg (Nat.le_of_ble_eq_true rfl) (show 22 ≤ lo by omega) (Nat.le_of_ble_eq_true rfl)) (m_refIf (b := true) (show 21 ≤ lo - 22 by omega) (by decide)) ?_
  rw [show ri true 0 3 = 3 from rfl]
  refine eR.step 2 (F' := (36, [(0, .ref 23), (1, .int (nI (f)))], [.int (nI 3)])) (h' := (Wd C e (P.1, 0) Q m1 N1 R 3 Z)) (fun _ _ => rfl) ?_
  refine eR.ifc rfl false ((nc_eq (b := 0) (by omega) (by decide)).trans (decide_eq_false (by omega))) ?_
  refine eR.step 1 (F' := (40, [(0, .ref 23), (1, .int (nI (f)))], [.int (nI 0)])) (h' := (Wd C e (P.1, 0) Q m1 N1 R 3 Z)) (fun _ _ => rfl) ?_
  exact eR.ret rfl rfl rfl
theorem m_unlink1 {cm sm fr lo : Nat} {C : gC} {e : Nat → Nat} {P Q : gT} {m : Nat} {N : Nat → Nat} {R : gS} {t : Nat} {Z : mj_H} (hlo : 159 ≤ lo) (V : qV e) (hN : ∀ k, N k < 256) (ht : ∀ k, P.1 k < 65536) (hl : P.2 ≤ 40) {f p m1 : Nat} {N1 : Nat → Nat} (hf0 : fo e P N = f) (hm0 : (pP P.1 P.2 N).2.1 = m1) (hN0 : (pP P.1 P.2 N).2.2 = N1) (h11 : e 11 = 1) (hfn : ¬ f = 0) (hf : f < 16) (hld : ld e N1 (m1 - 1) = p) (hm1 : 1 ≤ m1) (hm2 : m1 ≤ 20) (hN1 : ∀ k, N1 k < 256) (hp : p < 16) (hD : gD e p) {j : Nat} (hj : fd e p (fun q => N1 (7 * (m1 - 1) + q)) 2 (sn e p - 2) = j) (hj2 : 2 ≤ j) (hj24 : j < 24) (hk : ¬ e (32 + (16 * f)) = 2) (hl3 : 1 ≤ (cz e (sa e p j) 8) (32 + (16 * f) + 1)) (h : ¬ (al (cz e (sa e p j) 8) f 4294967295) (32 + (16 * f) + 1) = 0) : eE mm_P cm sm (fr + 8) lo 143 [.ref 23] (Wd C e P Q m N R t Z) (.inl (some (.int (nI ((al (cz e (sa e p j) 8) f 4294967295) (32 + (16 * f) + 1))))), (Wd C (al (cz e (sa e p j) 8) f 4294967295) (P.1, 0) Q m1 N1 R 0 Z)) := by
  refine eE.of ?_
  have htf := tf_le e f
  refine eR.step 2 (F' := (2, [(0, .ref 23)], [.int (nI 0), .ref 23])) (h' := (Wd C e P Q m N R t Z)) (fun _ _ => rfl) ?_
  refine eR.call (k' := 142) (as := [.ref 23, .int (nI 0)]) (rest := []) (v := some (.int (nI (fo e P N)))) (h1 := (Wd C e (P.1, 0) Q (pP P.1 P.2 N).2.1 (pP P.1 P.2 N).2.2 R (tf e (fo e P N)) Z)) rfl rfl rfl rfl (eg (Nat.le_of_ble_eq_true rfl) (show 23 ≤ lo by omega) (Nat.le_of_ble_eq_true rfl)) (m_found0 (show 136 ≤ lo - 23 by omega) V hN ht hl) ?_
  rw [hf0, hm0, hN0]
  refine eR.step 3 (F' := (10, [(0, .ref 23), (1, .int (nI (f)))], [.int (nI ((tf e f)))])) (h' := (Wd C e (P.1, 0) Q m1 N1 R (tf e f) Z)) (fun _ _ => rfl) ?_
  rw [tf_0 h11 hfn]
  refine eR.ifc rfl false ((nc_ne (b := 0) (by omega) (by decide)).trans (decide_eq_false (by omega))) ?_
  refine eR.step 3 (F' := (16, [(0, .ref 23), (1, .int (nI (f)))], [.int (nI (f)), .ref 23, .ref 23])) (h' := (Wd C e (P.1, 0) Q m1 N1 R 0 Z)) (fun _ _ => rfl) ?_
  have h6 := V.B.dk.1 (32 + (16 * f))
  refine eR.call (k' := 128) (as := [.ref 23, .int (nI (f))]) (rest := [.ref 23]) (v := some (.int (nI (e (32 + (16 * f)))))) (h1 := (Wd C e (P.1, 0) Q m1 N1 R 0 Z)) rfl rfl rfl rfl (eg (Nat.le_of_ble_eq_true rfl) (show 21 ≤ lo by omega) (Nat.le_of_ble_eq_true rfl)) (m_kind (show 20 ≤ lo - 21 by omega) hf) ?_
  refine eR.step 1 (F' := (20, [(0, .ref 23), (1, .int (nI (f)))], [.int (nI 2), .int (nI (e (32 + (16 * f)))), .ref 23])) (h' := (Wd C e (P.1, 0) Q m1 N1 R 0 Z)) (fun _ _ => rfl) ?_
  refine eR.icmp rfl true ((nc_ne (by omega) (by omega)).trans (decide_eq_true (by omega))) ?_
  refine eR.step 2 (F' := (29, [(0, .ref 23), (1, .int (nI (f)))], [.int (nI 3), .int (nI 0), .ref 23])) (h' := (Wd C e (P.1, 0) Q m1 N1 R 0 Z)) (fun _ _ => rfl) ?_
  refine eR.call (k' := 136) (as := [.ref 23, .int (nI 0), .int (nI 3)]) (rest := []) (v := none) (h1 := (Wd C e (P.1, 0) Q m1 N1 R (ri false 0 3) Z)) rfl rfl rfl rfl (eg (Nat.le_of_ble_eq_true rfl) (show 22 ≤ lo by omega) (Nat.le_of_ble_eq_true rfl)) (m_refIf (b := false) (show 21 ≤ lo - 22 by omega) (by decide)) ?_
  rw [show ri false 0 3 = 0 from rfl]
  refine eR.step 2 (F' := (36, [(0, .ref 23), (1, .int (nI (f)))], [.int (nI 0)])) (h' := (Wd C e (P.1, 0) Q m1 N1 R 0 Z)) (fun _ _ => rfl) ?_
  refine eR.ifc rfl true ((nc_eq (b := 0) (by omega) (by decide)).trans (decide_eq_true (by omega))) ?_
  refine eR.step 4 (F' := (47, [(0, .ref 23), (1, .int (nI (f)))], [.int (nI 1), .int (nI (m1)), .ref 23])) (h' := (Wd C e (P.1, 0) Q m1 N1 R 0 Z)) (fun _ _ => rfl) ?_
  refine eR.nsub rfl (by omega) ?_
  refine eR.call (k' := 127) (as := [.ref 23, .int (nI (m1 - 1))]) (rest := []) (v := some (.int (nI (ld e N1 (m1 - 1))))) (h1 := (Wd C e (P.1, 0) Q m1 N1 R 0 Z)) rfl rfl rfl rfl (eg (Nat.le_of_ble_eq_true rfl) (show 24 ≤ lo by omega) (Nat.le_of_ble_eq_true rfl)) (m_lead (show 112 ≤ lo - 24 by omega) V hN1 (by omega)) ?_
  rw [hld]
  refine eR.step 8 (F' := (61, [(0, .ref 23), (1, .int (nI (f))), (2, .int (nI (p)))], [.int (nI 1), .int (nI (m1)), .int (nI (p)), .ref 23, .int (nI (p)), .ref 23])) (h' := (Wd C e (P.1, 0) Q m1 N1 R 0 Z)) (fun _ _ => rfl) ?_
  refine eR.nsub rfl (by omega) ?_
  refine eR.call (k' := 129) (as := [.ref 23, .int (nI (p)), .int (nI (m1 - 1))]) (rest := [.int (nI (p)), .ref 23]) (v := some (.int (fi (fd e p (fun q => N1 (7 * (m1 - 1) + q)) 2 (sn e p - 2))))) (h1 := (Wd C e (P.1, 0) Q m1 N1 R 0 Z)) rfl rfl rfl rfl (eg (Nat.le_of_ble_eq_true rfl) (show 24 ≤ lo by omega) (Nat.le_of_ble_eq_true rfl)) (m_slotOf (show 88 ≤ lo - 24 by omega) V.B.dk hD (fun k => Nat.lt_trans (hN1 k) (by decide)) (by omega)) ?_
  rw [hj, fi_n (by omega)]
  refine eR.call (k' := 144) (as := [.ref 23, .int (nI (p)), .int (nI (j))]) (rest := []) (v := none) (h1 := (Wd C (cz e (sa e p j) 8) (P.1, 0) Q m1 N1 R 0 Z)) rfl rfl rfl rfl (eg (Nat.le_of_ble_eq_true rfl) (show 24 ≤ lo by omega) (Nat.le_of_ble_eq_true rfl)) (m_clr (show 88 ≤ lo - 24 by omega) V.B.dk hD hj24) ?_
  refine eR.step 3 (F' := (71, [(0, .ref 23), (1, .int (nI (f))), (2, .int (nI (p)))], [.int ((-1 : Int32)), .int (nI (f)), .ref 23])) (h' := (Wd C (cz e (sa e p j) 8) (P.1, 0) Q m1 N1 R 0 Z)) (fun _ _ => rfl) ?_
  refine eR.call (k' := 140) (as := [.ref 23, .int (nI (f)), .int ((-1 : Int32))]) (rest := []) (v := none) (h1 := (Wd C (al (cz e (sa e p j) 8) f 4294967295) (P.1, 0) Q m1 N1 R 0 Z)) rfl rfl rfl rfl (eg (Nat.le_of_ble_eq_true rfl) (show 22 ≤ lo by omega) (Nat.le_of_ble_eq_true rfl)) (m_addLm (show 20 ≤ lo - 22 by omega) (cz_dk V.B.dk _ _) hf hl3) ?_
  refine eR.step 3 (F' := (79, [(0, .ref 23), (1, .int (nI (f))), (2, .int (nI (p)))], [.int (nI (f)), .ref 24])) (h' := (Wd C (al (cz e (sa e p j) 8) f 4294967295) (P.1, 0) Q m1 N1 R 0 Z)) (fun _ _ => rfl) ?_
  refine eR.call (k' := 111) (as := [.int (nI (f))]) (rest := [.ref 24]) (v := some (.int (nI (32 + (16 * f))))) (h1 := (Wd C (al (cz e (sa e p j) 8) f 4294967295) (P.1, 0) Q m1 N1 R 0 Z)) rfl rfl rfl rfl (eg (Nat.le_of_ble_eq_true rfl) (show 20 ≤ lo by omega) (Nat.le_of_ble_eq_true rfl)) (m_at (by omega)) ?_
  refine eR.step 1 (F' := (83, [(0, .ref 23), (1, .int (nI (f))), (2, .int (nI (p)))], [.int (nI 1), .int (nI (32 + (16 * f))), .ref 24])) (h' := (Wd C (al (cz e (sa e p j) 8) f 4294967295) (P.1, 0) Q m1 N1 R 0 Z)) (fun _ _ => rfl) ?_
  refine eR.nadd rfl ?_
  refine eR.ld24 rfl (by omega) ?_
  have h9 := (al_dk (cz_dk V.B.dk (sa e p j) 8) f 4294967295).1 (32 + (16 * f) + 1)
  refine eR.step 2 (F' := (87, [(0, .ref 23), (1, .int (nI (f))), (2, .int (nI (p))), (3, .int (nI (((al (cz e (sa e p j) 8) f 4294967295)) ((32 + (16 * f)) + 1))))], [.int (nI (((al (cz e (sa e p j) 8) f 4294967295)) ((32 + (16 * f)) + 1)))])) (h' := (Wd C (al (cz e (sa e p j) 8) f 4294967295) (P.1, 0) Q m1 N1 R 0 Z)) (fun _ _ => rfl) ?_
  refine eR.ifc rfl true ((nc_ne (b := 0) (by omega) (by decide)).trans (decide_eq_true (by omega))) ?_
  refine eR.step 1 (F' := (96, [(0, .ref 23), (1, .int (nI (f))), (2, .int (nI (p))), (3, .int (nI (((al (cz e (sa e p j) 8) f 4294967295)) ((32 + (16 * f)) + 1))))], [.int (nI (((al (cz e (sa e p j) 8) f 4294967295)) ((32 + (16 * f)) + 1)))])) (h' := (Wd C (al (cz e (sa e p j) 8) f 4294967295) (P.1, 0) Q m1 N1 R 0 Z)) (fun _ _ => rfl) ?_
  exact eR.ret rfl rfl rfl
theorem m_unlink0 {cm sm fr lo : Nat} {C : gC} {e : Nat → Nat} {P Q : gT} {m : Nat} {N : Nat → Nat} {R : gS} {t : Nat} {Z : mj_H} (hlo : 159 ≤ lo) (V : qV e) (hN : ∀ k, N k < 256) (ht : ∀ k, P.1 k < 65536) (hl : P.2 ≤ 40) {f p m1 : Nat} {N1 : Nat → Nat} (hf0 : fo e P N = f) (hm0 : (pP P.1 P.2 N).2.1 = m1) (hN0 : (pP P.1 P.2 N).2.2 = N1) (h11 : e 11 = 1) (hfn : ¬ f = 0) (hf : f < 16) (hld : ld e N1 (m1 - 1) = p) (hm1 : 1 ≤ m1) (hm2 : m1 ≤ 20) (hN1 : ∀ k, N1 k < 256) (hp : p < 16) (hD : gD e p) {j : Nat} (hj : fd e p (fun q => N1 (7 * (m1 - 1) + q)) 2 (sn e p - 2) = j) (hj2 : 2 ≤ j) (hj24 : j < 24) (hk : ¬ e (32 + (16 * f)) = 2) (hl3 : 1 ≤ (cz e (sa e p j) 8) (32 + (16 * f) + 1)) (h : (al (cz e (sa e p j) 8) f 4294967295) (32 + (16 * f) + 1) = 0) (E : qE (al (cz e (sa e p j) 8) f 4294967295)) : eE mm_P cm sm (fr + 8) lo 143 [.ref 23] (Wd C e P Q m N R t Z) (.inl (some (.int (nI ((al (cz e (sa e p j) 8) f 4294967295) (32 + (16 * f) + 1))))), (Wd C (gi (al (cz e (sa e p j) 8) f 4294967295) f) (P.1, 0) Q m1 N1 R 0 Z)) := by
  refine eE.of ?_
  have htf := tf_le e f
  refine eR.step 2 (F' := (2, [(0, .ref 23)], [.int (nI 0), .ref 23])) (h' := (Wd C e P Q m N R t Z)) (fun _ _ => rfl) ?_
  refine eR.call (k' := 142) (as := [.ref 23, .int (nI 0)]) (rest := []) (v := some (.int (nI (fo e P N)))) (h1 := (Wd C e (P.1, 0) Q (pP P.1 P.2 N).2.1 (pP P.1 P.2 N).2.2 R (tf e (fo e P N)) Z)) rfl rfl rfl rfl (eg (Nat.le_of_ble_eq_true rfl) (show 23 ≤ lo by omega) (Nat.le_of_ble_eq_true rfl)) (m_found0 (show 136 ≤ lo - 23 by omega) V hN ht hl) ?_
  rw [hf0, hm0, hN0]
  refine eR.step 3 (F' := (10, [(0, .ref 23), (1, .int (nI (f)))], [.int (nI ((tf e f)))])) (h' := (Wd C e (P.1, 0) Q m1 N1 R (tf e f) Z)) (fun _ _ => rfl) ?_
  rw [tf_0 h11 hfn]
  refine eR.ifc rfl false ((nc_ne (b := 0) (by omega) (by decide)).trans (decide_eq_false (by omega))) ?_
  refine eR.step 3 (F' := (16, [(0, .ref 23), (1, .int (nI (f)))], [.int (nI (f)), .ref 23, .ref 23])) (h' := (Wd C e (P.1, 0) Q m1 N1 R 0 Z)) (fun _ _ => rfl) ?_
  have h6 := V.B.dk.1 (32 + (16 * f))
  refine eR.call (k' := 128) (as := [.ref 23, .int (nI (f))]) (rest := [.ref 23]) (v := some (.int (nI (e (32 + (16 * f)))))) (h1 := (Wd C e (P.1, 0) Q m1 N1 R 0 Z)) rfl rfl rfl rfl (eg (Nat.le_of_ble_eq_true rfl) (show 21 ≤ lo by omega) (Nat.le_of_ble_eq_true rfl)) (m_kind (show 20 ≤ lo - 21 by omega) hf) ?_
  refine eR.step 1 (F' := (20, [(0, .ref 23), (1, .int (nI (f)))], [.int (nI 2), .int (nI (e (32 + (16 * f)))), .ref 23])) (h' := (Wd C e (P.1, 0) Q m1 N1 R 0 Z)) (fun _ _ => rfl) ?_
  refine eR.icmp rfl true ((nc_ne (by omega) (by omega)).trans (decide_eq_true (by omega))) ?_
  refine eR.step 2 (F' := (29, [(0, .ref 23), (1, .int (nI (f)))], [.int (nI 3), .int (nI 0), .ref 23])) (h' := (Wd C e (P.1, 0) Q m1 N1 R 0 Z)) (fun _ _ => rfl) ?_
  refine eR.call (k' := 136) (as := [.ref 23, .int (nI 0), .int (nI 3)]) (rest := []) (v := none) (h1 := (Wd C e (P.1, 0) Q m1 N1 R (ri false 0 3) Z)) rfl rfl rfl rfl (eg (Nat.le_of_ble_eq_true rfl) (show 22 ≤ lo by omega) (Nat.le_of_ble_eq_true rfl)) (m_refIf (b := false) (show 21 ≤ lo - 22 by omega) (by decide)) ?_
  rw [show ri false 0 3 = 0 from rfl]
  refine eR.step 2 (F' := (36, [(0, .ref 23), (1, .int (nI (f)))], [.int (nI 0)])) (h' := (Wd C e (P.1, 0) Q m1 N1 R 0 Z)) (fun _ _ => rfl) ?_
  refine eR.ifc rfl true ((nc_eq (b := 0) (by omega) (by decide)).trans (decide_eq_true (by omega))) ?_
  refine eR.step 4 (F' := (47, [(0, .ref 23), (1, .int (nI (f)))], [.int (nI 1), .int (nI (m1)), .ref 23])) (h' := (Wd C e (P.1, 0) Q m1 N1 R 0 Z)) (fun _ _ => rfl) ?_
  refine eR.nsub rfl (by omega) ?_
  refine eR.call (k' := 127) (as := [.ref 23, .int (nI (m1 - 1))]) (rest := []) (v := some (.int (nI (ld e N1 (m1 - 1))))) (h1 := (Wd C e (P.1, 0) Q m1 N1 R 0 Z)) rfl rfl rfl rfl (eg (Nat.le_of_ble_eq_true rfl) (show 24 ≤ lo by omega) (Nat.le_of_ble_eq_true rfl)) (m_lead (show 112 ≤ lo - 24 by omega) V hN1 (by omega)) ?_
  rw [hld]
  refine eR.step 8 (F' := (61, [(0, .ref 23), (1, .int (nI (f))), (2, .int (nI (p)))], [.int (nI 1), .int (nI (m1)), .int (nI (p)), .ref 23, .int (nI (p)), .ref 23])) (h' := (Wd C e (P.1, 0) Q m1 N1 R 0 Z)) (fun _ _ => rfl) ?_
  refine eR.nsub rfl (by omega) ?_
  refine eR.call (k' := 129) (as := [.ref 23, .int (nI (p)), .int (nI (m1 - 1))]) (rest := [.int (nI (p)), .ref 23]) (v := some (.int (fi (fd e p (fun q => N1 (7 * (m1 - 1) + q)) 2 (sn e p - 2))))) (h1 := (Wd C e (P.1, 0) Q m1 N1 R 0 Z)) rfl rfl rfl rfl (eg (Nat.le_of_ble_eq_true rfl) (show 24 ≤ lo by omega) (Nat.le_of_ble_eq_true rfl)) (m_slotOf (show 88 ≤ lo - 24 by omega) V.B.dk hD (fun k => Nat.lt_trans (hN1 k) (by decide)) (by omega)) ?_
  rw [hj, fi_n (by omega)]
  refine eR.call (k' := 144) (as := [.ref 23, .int (nI (p)), .int (nI (j))]) (rest := []) (v := none) (h1 := (Wd C (cz e (sa e p j) 8) (P.1, 0) Q m1 N1 R 0 Z)) rfl rfl rfl rfl (eg (Nat.le_of_ble_eq_true rfl) (show 24 ≤ lo by omega) (Nat.le_of_ble_eq_true rfl)) (m_clr (show 88 ≤ lo - 24 by omega) V.B.dk hD hj24) ?_
  refine eR.step 3 (F' := (71, [(0, .ref 23), (1, .int (nI (f))), (2, .int (nI (p)))], [.int ((-1 : Int32)), .int (nI (f)), .ref 23])) (h' := (Wd C (cz e (sa e p j) 8) (P.1, 0) Q m1 N1 R 0 Z)) (fun _ _ => rfl) ?_
  refine eR.call (k' := 140) (as := [.ref 23, .int (nI (f)), .int ((-1 : Int32))]) (rest := []) (v := none) (h1 := (Wd C (al (cz e (sa e p j) 8) f 4294967295) (P.1, 0) Q m1 N1 R 0 Z)) rfl rfl rfl rfl (eg (Nat.le_of_ble_eq_true rfl) (show 22 ≤ lo by omega) (Nat.le_of_ble_eq_true rfl)) (m_addLm (show 20 ≤ lo - 22 by omega) (cz_dk V.B.dk _ _) hf hl3) ?_
  refine eR.step 3 (F' := (79, [(0, .ref 23), (1, .int (nI (f))), (2, .int (nI (p)))], [.int (nI (f)), .ref 24])) (h' := (Wd C (al (cz e (sa e p j) 8) f 4294967295) (P.1, 0) Q m1 N1 R 0 Z)) (fun _ _ => rfl) ?_
  refine eR.call (k' := 111) (as := [.int (nI (f))]) (rest := [.ref 24]) (v := some (.int (nI (32 + (16 * f))))) (h1 := (Wd C (al (cz e (sa e p j) 8) f 4294967295) (P.1, 0) Q m1 N1 R 0 Z)) rfl rfl rfl rfl (eg (Nat.le_of_ble_eq_true rfl) (show 20 ≤ lo by omega) (Nat.le_of_ble_eq_true rfl)) (m_at (by omega)) ?_
  refine eR.step 1 (F' := (83, [(0, .ref 23), (1, .int (nI (f))), (2, .int (nI (p)))], [.int (nI 1), .int (nI (32 + (16 * f))), .ref 24])) (h' := (Wd C (al (cz e (sa e p j) 8) f 4294967295) (P.1, 0) Q m1 N1 R 0 Z)) (fun _ _ => rfl) ?_
  refine eR.nadd rfl ?_
  refine eR.ld24 rfl (by omega) ?_
  have h9 := (al_dk (cz_dk V.B.dk (sa e p j) 8) f 4294967295).1 (32 + (16 * f) + 1)
  refine eR.step 2 (F' := (87, [(0, .ref 23), (1, .int (nI (f))), (2, .int (nI (p))), (3, .int (nI (((al (cz e (sa e p j) 8) f 4294967295)) ((32 + (16 * f)) + 1))))], [.int (nI (((al (cz e (sa e p j) 8) f 4294967295)) ((32 + (16 * f)) + 1)))])) (h' := (Wd C (al (cz e (sa e p j) 8) f 4294967295) (P.1, 0) Q m1 N1 R 0 Z)) (fun _ _ => rfl) ?_
  refine eR.ifc rfl false ((nc_ne (b := 0) (by omega) (by decide)).trans (decide_eq_false (by omega))) ?_
  refine eR.step 2 (F' := (92, [(0, .ref 23), (1, .int (nI (f))), (2, .int (nI (p))), (3, .int (nI (((al (cz e (sa e p j) 8) f 4294967295)) ((32 + (16 * f)) + 1))))], [.int (nI (f)), .ref 23])) (h' := (Wd C (al (cz e (sa e p j) 8) f 4294967295) (P.1, 0) Q m1 N1 R 0 Z)) (fun _ _ => rfl) ?_
  refine eR.call (k' := 145) (as := [.ref 23, .int (nI (f))]) (rest := []) (v := none) (h1 := (Wd C (gi (al (cz e (sa e p j) 8) f 4294967295) f) (P.1, 0) Q m1 N1 R 0 Z)) rfl rfl rfl rfl (eg (Nat.le_of_ble_eq_true rfl) (show 22 ≤ lo by omega) (Nat.le_of_ble_eq_true rfl)) (m_rmI (show 114 ≤ lo - 22 by omega) E hf (by omega)) ?_
  refine eR.step 1 (F' := (96, [(0, .ref 23), (1, .int (nI (f))), (2, .int (nI (p))), (3, .int (nI (((al (cz e (sa e p j) 8) f 4294967295)) ((32 + (16 * f)) + 1))))], [.int (nI (((al (cz e (sa e p j) 8) f 4294967295)) ((32 + (16 * f)) + 1)))])) (h' := (Wd C (gi (al (cz e (sa e p j) 8) f 4294967295) f) (P.1, 0) Q m1 N1 R 0 Z)) (fun _ _ => rfl) ?_
  exact eR.ret rfl rfl rfl
theorem m_rmdirA {cm sm fr lo : Nat} {C : gC} {e : Nat → Nat} {P Q : gT} {m : Nat} {N : Nat → Nat} {R : gS} {t : Nat} {Z : mj_H} (hlo : 159 ≤ lo) (V : qV e) (hN : ∀ k, N k < 256) (ht : ∀ k, P.1 k < 65536) (hl : P.2 ≤ 40) {f m1 : Nat} {N1 : Nat → Nat} (hf0 : fo e P N = f) (hm0 : (pP P.1 P.2 N).2.1 = m1) (hN0 : (pP P.1 P.2 N).2.2 = N1) (h : ¬ tf e f = 0) : eE mm_P cm sm (fr + 8) lo 148 [.ref 23] (Wd C e P Q m N R t Z) (.inl (some (.int (nI 0))), (Wd C e (P.1, 0) Q m1 N1 R (tf e f) Z)) := by
  refine eE.of ?_
  have htf := tf_le e f
  refine eR.step 2 (F' := (2, [(0, .ref 23)], [.int (nI 0), .ref 23])) (h' := (Wd C e P Q m N R t Z)) (fun _ _ => rfl) ?_
  refine eR.call (k' := 142) (as := [.ref 23, .int (nI 0)]) (rest := []) (v := some (.int (nI (fo e P N)))) (h1 := (Wd C e (P.1, 0) Q (pP P.1 P.2 N).2.1 (pP P.1 P.2 N).2.2 R (tf e (fo e P N)) Z)) rfl rfl rfl rfl (eg (Nat.le_of_ble_eq_true rfl) (show 23 ≤ lo by omega) (Nat.le_of_ble_eq_true rfl)) (m_found0 (show 136 ≤ lo - 23 by omega) V hN ht hl) ?_
  rw [hf0, hm0, hN0]
  refine eR.step 3 (F' := (10, [(0, .ref 23), (1, .int (nI (f)))], [.int (nI ((tf e f)))])) (h' := (Wd C e (P.1, 0) Q m1 N1 R (tf e f) Z)) (fun _ _ => rfl) ?_
  refine eR.ifc rfl true ((nc_ne (b := 0) (by omega) (by decide)).trans (decide_eq_true (by omega))) ?_
  refine eR.step 2 (F' := (41, [(0, .ref 23), (1, .int (nI (f)))], [.int (nI ((tf e f)))])) (h' := (Wd C e (P.1, 0) Q m1 N1 R (tf e f) Z)) (fun _ _ => rfl) ?_
  refine eR.ifc rfl true ((nc_ne (b := 0) (by omega) (by decide)).trans (decide_eq_true (by omega))) ?_
  refine eR.step 2 (F' := (58, [(0, .ref 23), (1, .int (nI (f)))], [.int (nI ((tf e f)))])) (h' := (Wd C e (P.1, 0) Q m1 N1 R (tf e f) Z)) (fun _ _ => rfl) ?_
  refine eR.ifc rfl false ((nc_eq (b := 0) (by omega) (by decide)).trans (decide_eq_false (by omega))) ?_
  refine eR.step 1 (F' := (62, [(0, .ref 23), (1, .int (nI (f)))], [.int (nI 0)])) (h' := (Wd C e (P.1, 0) Q m1 N1 R (tf e f) Z)) (fun _ _ => rfl) ?_
  exact eR.ret rfl rfl rfl
theorem m_rmdirF {cm sm fr lo : Nat} {C : gC} {e : Nat → Nat} {P Q : gT} {m : Nat} {N : Nat → Nat} {R : gS} {t : Nat} {Z : mj_H} (hlo : 159 ≤ lo) (V : qV e) (hN : ∀ k, N k < 256) (ht : ∀ k, P.1 k < 65536) (hl : P.2 ≤ 40) {f m1 : Nat} {N1 : Nat → Nat} (hf0 : fo e P N = f) (hm0 : (pP P.1 P.2 N).2.1 = m1) (hN0 : (pP P.1 P.2 N).2.2 = N1) (h11 : e 11 = 1) (hfn : ¬ f = 0) (hf : f < 16) (hk : e (32 + (16 * f)) = 1) : eE mm_P cm sm (fr + 8) lo 148 [.ref 23] (Wd C e P Q m N R t Z) (.inl (some (.int (nI 0))), (Wd C e (P.1, 0) Q m1 N1 R 3 Z)) := by
  refine eE.of ?_
  have htf := tf_le e f
  refine eR.step 2 (F' := (2, [(0, .ref 23)], [.int (nI 0), .ref 23])) (h' := (Wd C e P Q m N R t Z)) (fun _ _ => rfl) ?_
  refine eR.call (k' := 142) (as := [.ref 23, .int (nI 0)]) (rest := []) (v := some (.int (nI (fo e P N)))) (h1 := (Wd C e (P.1, 0) Q (pP P.1 P.2 N).2.1 (pP P.1 P.2 N).2.2 R (tf e (fo e P N)) Z)) rfl rfl rfl rfl (eg (Nat.le_of_ble_eq_true rfl) (show 23 ≤ lo by omega) (Nat.le_of_ble_eq_true rfl)) (m_found0 (show 136 ≤ lo - 23 by omega) V hN ht hl) ?_
  rw [hf0, hm0, hN0]
  refine eR.step 3 (F' := (10, [(0, .ref 23), (1, .int (nI (f)))], [.int (nI ((tf e f)))])) (h' := (Wd C e (P.1, 0) Q m1 N1 R (tf e f) Z)) (fun _ _ => rfl) ?_
  rw [tf_0 h11 hfn]
  refine eR.ifc rfl false ((nc_ne (b := 0) (by omega) (by decide)).trans (decide_eq_false (by omega))) ?_
  refine eR.step 3 (F' := (16, [(0, .ref 23), (1, .int (nI (f)))], [.int (nI (f)), .ref 23, .ref 23])) (h' := (Wd C e (P.1, 0) Q m1 N1 R 0 Z)) (fun _ _ => rfl) ?_
  have h6 := V.B.dk.1 (32 + (16 * f))
  refine eR.call (k' := 128) (as := [.ref 23, .int (nI (f))]) (rest := [.ref 23]) (v := some (.int (nI (e (32 + (16 * f)))))) (h1 := (Wd C e (P.1, 0) Q m1 N1 R 0 Z)) rfl rfl rfl rfl (eg (Nat.le_of_ble_eq_true rfl) (show 21 ≤ lo by omega) (Nat.le_of_ble_eq_true rfl)) (m_kind (show 20 ≤ lo - 21 by omega) hf) ?_
  refine eR.step 1 (F' := (20, [(0, .ref 23), (1, .int (nI (f)))], [.int (nI 1), .int (nI (e (32 + (16 * f)))), .ref 23])) (h' := (Wd C e (P.1, 0) Q m1 N1 R 0 Z)) (fun _ _ => rfl) ?_
  refine eR.icmp rfl true ((nc_eq (by omega) (by omega)).trans (decide_eq_true (by omega))) ?_
  refine eR.step 3 (F' := (34, [(0, .ref 23), (1, .int (nI (f)))], [.int (nI 3), .int (nI 1), .ref 23])) (h' := (Wd C e (P.1, 0) Q m1 N1 R 0 Z)) (fun _ _ => rfl) ?_
  refine eR.call (k' := 136) (as := [.ref 23, .int (nI 1), .int (nI 3)]) (rest := []) (v := none) (h1 := (Wd C e (P.1, 0) Q m1 N1 R (ri true 0 3) Z)) rfl rfl rfl rfl (eg (Nat.le_of_ble_eq_true rfl) (show 22 ≤ lo by omega) (Nat.le_of_ble_eq_true rfl)) (m_refIf (b := true) (show 21 ≤ lo - 22 by omega) (by decide)) ?_
  rw [show ri true 0 3 = 3 from rfl]
  refine eR.step 2 (F' := (41, [(0, .ref 23), (1, .int (nI (f)))], [.int (nI 3)])) (h' := (Wd C e (P.1, 0) Q m1 N1 R 3 Z)) (fun _ _ => rfl) ?_
  refine eR.ifc rfl true ((nc_ne (b := 0) (by omega) (by decide)).trans (decide_eq_true (by omega))) ?_
  refine eR.step 2 (F' := (58, [(0, .ref 23), (1, .int (nI (f)))], [.int (nI 3)])) (h' := (Wd C e (P.1, 0) Q m1 N1 R 3 Z)) (fun _ _ => rfl) ?_
  refine eR.ifc rfl false ((nc_eq (b := 0) (by omega) (by decide)).trans (decide_eq_false (by omega))) ?_
  refine eR.step 1 (F' := (62, [(0, .ref 23), (1, .int (nI (f)))], [.int (nI 0)])) (h' := (Wd C e (P.1, 0) Q m1 N1 R 3 Z)) (fun _ _ => rfl) ?_
  exact eR.ret rfl rfl rfl
theorem m_rmdirR {cm sm fr lo : Nat} {C : gC} {e : Nat → Nat} {P Q : gT} {m : Nat} {N : Nat → Nat} {R : gS} {t : Nat} {Z : mj_H} (hlo : 159 ≤ lo) (V : qV e) (hN : ∀ k, N k < 256) (ht : ∀ k, P.1 k < 65536) (hl : P.2 ≤ 40) {f m1 : Nat} {N1 : Nat → Nat} (hf0 : fo e P N = f) (hm0 : (pP P.1 P.2 N).2.1 = m1) (hN0 : (pP P.1 P.2 N).2.2 = N1) (h11 : e 11 = 1) (hfn : ¬ f = 0) (hf : f < 16) (hk : ¬ e (32 + (16 * f)) = 1) (h1 : f = 1) : eE mm_P cm sm (fr + 8) lo 148 [.ref 23] (Wd C e P Q m N R t Z) (.inl (some (.int (nI 0))), (Wd C e (P.1, 0) Q m1 N1 R 3 Z)) := by
  refine eE.of ?_
  have htf := tf_le e f
  refine eR.step 2 (F' := (2, [(0, .ref 23)], [.int (nI 0), .ref 23])) (h' := (Wd C e P Q m N R t Z)) (fun _ _ => rfl) ?_
  refine eR.call (k' := 142) (as := [.ref 23, .int (nI 0)]) (rest := []) (v := some (.int (nI (fo e P N)))) (h1 := (Wd C e (P.1, 0) Q (pP P.1 P.2 N).2.1 (pP P.1 P.2 N).2.2 R (tf e (fo e P N)) Z)) rfl rfl rfl rfl (eg (Nat.le_of_ble_eq_true rfl) (show 23 ≤ lo by omega) (Nat.le_of_ble_eq_true rfl)) (m_found0 (show 136 ≤ lo - 23 by omega) V hN ht hl) ?_
  rw [hf0, hm0, hN0]
  refine eR.step 3 (F' := (10, [(0, .ref 23), (1, .int (nI (f)))], [.int (nI ((tf e f)))])) (h' := (Wd C e (P.1, 0) Q m1 N1 R (tf e f) Z)) (fun _ _ => rfl) ?_
  rw [tf_0 h11 hfn]
  refine eR.ifc rfl false ((nc_ne (b := 0) (by omega) (by decide)).trans (decide_eq_false (by omega))) ?_
  refine eR.step 3 (F' := (16, [(0, .ref 23), (1, .int (nI (f)))], [.int (nI (f)), .ref 23, .ref 23])) (h' := (Wd C e (P.1, 0) Q m1 N1 R 0 Z)) (fun _ _ => rfl) ?_
  have h6 := V.B.dk.1 (32 + (16 * f))
  refine eR.call (k' := 128) (as := [.ref 23, .int (nI (f))]) (rest := [.ref 23]) (v := some (.int (nI (e (32 + (16 * f)))))) (h1 := (Wd C e (P.1, 0) Q m1 N1 R 0 Z)) rfl rfl rfl rfl (eg (Nat.le_of_ble_eq_true rfl) (show 21 ≤ lo by omega) (Nat.le_of_ble_eq_true rfl)) (m_kind (show 20 ≤ lo - 21 by omega) hf) ?_
  refine eR.step 1 (F' := (20, [(0, .ref 23), (1, .int (nI (f)))], [.int (nI 1), .int (nI (e (32 + (16 * f)))), .ref 23])) (h' := (Wd C e (P.1, 0) Q m1 N1 R 0 Z)) (fun _ _ => rfl) ?_
  refine eR.icmp rfl false ((nc_eq (by omega) (by omega)).trans (decide_eq_false (by omega))) ?_
  refine eR.step 2 (F' := (25, [(0, .ref 23), (1, .int (nI (f)))], [.int (nI 1), .int (nI (f)), .ref 23])) (h' := (Wd C e (P.1, 0) Q m1 N1 R 0 Z)) (fun _ _ => rfl) ?_
  refine eR.icmp rfl false ((nc_ne (by omega) (by omega)).trans (decide_eq_false (by omega))) ?_
  refine eR.step 3 (F' := (34, [(0, .ref 23), (1, .int (nI (f)))], [.int (nI 3), .int (nI 1), .ref 23])) (h' := (Wd C e (P.1, 0) Q m1 N1 R 0 Z)) (fun _ _ => rfl) ?_
  refine eR.call (k' := 136) (as := [.ref 23, .int (nI 1), .int (nI 3)]) (rest := []) (v := none) (h1 := (Wd C e (P.1, 0) Q m1 N1 R (ri true 0 3) Z)) rfl rfl rfl rfl (eg (Nat.le_of_ble_eq_true rfl) (show 22 ≤ lo by omega) (Nat.le_of_ble_eq_true rfl)) (m_refIf (b := true) (show 21 ≤ lo - 22 by omega) (by decide)) ?_
  rw [show ri true 0 3 = 3 from rfl]
  refine eR.step 2 (F' := (41, [(0, .ref 23), (1, .int (nI (f)))], [.int (nI 3)])) (h' := (Wd C e (P.1, 0) Q m1 N1 R 3 Z)) (fun _ _ => rfl) ?_
  refine eR.ifc rfl true ((nc_ne (b := 0) (by omega) (by decide)).trans (decide_eq_true (by omega))) ?_
  refine eR.step 2 (F' := (58, [(0, .ref 23), (1, .int (nI (f)))], [.int (nI 3)])) (h' := (Wd C e (P.1, 0) Q m1 N1 R 3 Z)) (fun _ _ => rfl) ?_
  refine eR.ifc rfl false ((nc_eq (b := 0) (by omega) (by decide)).trans (decide_eq_false (by omega))) ?_
  refine eR.step 1 (F' := (62, [(0, .ref 23), (1, .int (nI (f)))], [.int (nI 0)])) (h' := (Wd C e (P.1, 0) Q m1 N1 R 3 Z)) (fun _ _ => rfl) ?_
  exact eR.ret rfl rfl rfl
theorem m_rmdirE {cm sm fr lo : Nat} {C : gC} {e : Nat → Nat} {P Q : gT} {m : Nat} {N : Nat → Nat} {R : gS} {t : Nat} {Z : mj_H} (hlo : 159 ≤ lo) (V : qV e) (hN : ∀ k, N k < 256) (ht : ∀ k, P.1 k < 65536) (hl : P.2 ≤ 40) {f m1 : Nat} {N1 : Nat → Nat} (hf0 : fo e P N = f) (hm0 : (pP P.1 P.2 N).2.1 = m1) (hN0 : (pP P.1 P.2 N).2.2 = N1) (h11 : e 11 = 1) (hfn : ¬ f = 0) (hf : f < 16) (hk : ¬ e (32 + (16 * f)) = 1) (h1 : ¬ f = 1) (hDf : gD e f) (he0 : em e f 2 (sn e f - 2) = false) : eE mm_P cm sm (fr + 8) lo 148 [.ref 23] (Wd C e P Q m N R t Z) (.inl (some (.int (nI 0))), (Wd C e (P.1, 0) Q m1 N1 R 4 Z)) := by
  refine eE.of ?_
  have htf := tf_le e f
  refine eR.step 2 (F' := (2, [(0, .ref 23)], [.int (nI 0), .ref 23])) (h' := (Wd C e P Q m N R t Z)) (fun _ _ => rfl) ?_
  refine eR.call (k' := 142) (as := [.ref 23, .int (nI 0)]) (rest := []) (v := some (.int (nI (fo e P N)))) (h1 := (Wd C e (P.1, 0) Q (pP P.1 P.2 N).2.1 (pP P.1 P.2 N).2.2 R (tf e (fo e P N)) Z)) rfl rfl rfl rfl (eg (Nat.le_of_ble_eq_true rfl) (show 23 ≤ lo by omega) (Nat.le_of_ble_eq_true rfl)) (m_found0 (show 136 ≤ lo - 23 by omega) V hN ht hl) ?_
  rw [hf0, hm0, hN0]
  refine eR.step 3 (F' := (10, [(0, .ref 23), (1, .int (nI (f)))], [.int (nI ((tf e f)))])) (h' := (Wd C e (P.1, 0) Q m1 N1 R (tf e f) Z)) (fun _ _ => rfl) ?_
  rw [tf_0 h11 hfn]
  refine eR.ifc rfl false ((nc_ne (b := 0) (by omega) (by decide)).trans (decide_eq_false (by omega))) ?_
  refine eR.step 3 (F' := (16, [(0, .ref 23), (1, .int (nI (f)))], [.int (nI (f)), .ref 23, .ref 23])) (h' := (Wd C e (P.1, 0) Q m1 N1 R 0 Z)) (fun _ _ => rfl) ?_
  have h6 := V.B.dk.1 (32 + (16 * f))
  refine eR.call (k' := 128) (as := [.ref 23, .int (nI (f))]) (rest := [.ref 23]) (v := some (.int (nI (e (32 + (16 * f)))))) (h1 := (Wd C e (P.1, 0) Q m1 N1 R 0 Z)) rfl rfl rfl rfl (eg (Nat.le_of_ble_eq_true rfl) (show 21 ≤ lo by omega) (Nat.le_of_ble_eq_true rfl)) (m_kind (show 20 ≤ lo - 21 by omega) hf) ?_
  refine eR.step 1 (F' := (20, [(0, .ref 23), (1, .int (nI (f)))], [.int (nI 1), .int (nI (e (32 + (16 * f)))), .ref 23])) (h' := (Wd C e (P.1, 0) Q m1 N1 R 0 Z)) (fun _ _ => rfl) ?_
  refine eR.icmp rfl false ((nc_eq (by omega) (by omega)).trans (decide_eq_false (by omega))) ?_
  refine eR.step 2 (F' := (25, [(0, .ref 23), (1, .int (nI (f)))], [.int (nI 1), .int (nI (f)), .ref 23])) (h' := (Wd C e (P.1, 0) Q m1 N1 R 0 Z)) (fun _ _ => rfl) ?_
  refine eR.icmp rfl true ((nc_ne (by omega) (by omega)).trans (decide_eq_true (by omega))) ?_
  refine eR.step 2 (F' := (34, [(0, .ref 23), (1, .int (nI (f)))], [.int (nI 3), .int (nI 0), .ref 23])) (h' := (Wd C e (P.1, 0) Q m1 N1 R 0 Z)) (fun _ _ => rfl) ?_
  refine eR.call (k' := 136) (as := [.ref 23, .int (nI 0), .int (nI 3)]) (rest := []) (v := none) (h1 := (Wd C e (P.1, 0) Q m1 N1 R (ri false 0 3) Z)) rfl rfl rfl rfl (eg (Nat.le_of_ble_eq_true rfl) (show 22 ≤ lo by omega) (Nat.le_of_ble_eq_true rfl)) (m_refIf (b := false) (show 21 ≤ lo - 22 by omega) (by decide)) ?_
  rw [show ri false 0 3 = 0 from rfl]
  refine eR.step 2 (F' := (41, [(0, .ref 23), (1, .int (nI (f)))], [.int (nI 0)])) (h' := (Wd C e (P.1, 0) Q m1 N1 R 0 Z)) (fun _ _ => rfl) ?_
  refine eR.ifc rfl false ((nc_ne (b := 0) (by omega) (by decide)).trans (decide_eq_false (by omega))) ?_
  refine eR.step 3 (F' := (47, [(0, .ref 23), (1, .int (nI (f)))], [.int (nI (f)), .ref 23, .ref 23])) (h' := (Wd C e (P.1, 0) Q m1 N1 R 0 Z)) (fun _ _ => rfl) ?_
  refine eR.call (k' := 149) (as := [.ref 23, .int (nI (f))]) (rest := [.ref 23]) (v := some (.int (nI (bi (!em e f 2 (sn e f - 2)))))) (h1 := (Wd C e (P.1, 0) Q m1 N1 R 0 Z)) rfl rfl rfl rfl (eg (Nat.le_of_ble_eq_true rfl) (show 22 ≤ lo by omega) (Nat.le_of_ble_eq_true rfl)) (m_full (show 88 ≤ lo - 22 by omega) V.B.dk hDf) ?_
  rw [show bi (!em e f 2 (sn e f - 2)) = 1 by rw [he0]; rfl]
  refine eR.step 1 (F' := (51, [(0, .ref 23), (1, .int (nI (f)))], [.int (nI 4), .int (nI 1), .ref 23])) (h' := (Wd C e (P.1, 0) Q m1 N1 R 0 Z)) (fun _ _ => rfl) ?_
  refine eR.call (k' := 136) (as := [.ref 23, .int (nI 1), .int (nI 4)]) (rest := []) (v := none) (h1 := (Wd C e (P.1, 0) Q m1 N1 R (ri true 0 4) Z)) rfl rfl rfl rfl (eg (Nat.le_of_ble_eq_true rfl) (show 22 ≤ lo by omega) (Nat.le_of_ble_eq_true rfl)) (m_refIf (b := true) (show 21 ≤ lo - 22 by omega) (by decide)) ?_
  rw [show ri true 0 4 = 4 from rfl]
  refine eR.step 2 (F' := (58, [(0, .ref 23), (1, .int (nI (f)))], [.int (nI 4)])) (h' := (Wd C e (P.1, 0) Q m1 N1 R 4 Z)) (fun _ _ => rfl) ?_
  refine eR.ifc rfl false ((nc_eq (b := 0) (by omega) (by decide)).trans (decide_eq_false (by omega))) ?_
  refine eR.step 1 (F' := (62, [(0, .ref 23), (1, .int (nI (f)))], [.int (nI 0)])) (h' := (Wd C e (P.1, 0) Q m1 N1 R 4 Z)) (fun _ _ => rfl) ?_
  exact eR.ret rfl rfl rfl
theorem l_rmc {cm sm fr lo : Nat} {C : gC} {e : Nat → Nat} {P Q : gT} {m : Nat} {N : Nat → Nat} {R : gS} {t : Nat} {Z : mj_H} (hlo : 159 ≤ lo) (he : dk e) {f p : Nat} : ∀ (q k c : Nat), k + q = 16 → c + q < 40 → eR mm_P cm sm (fr + 2) lo 148 (106, [(0, .ref 23), (1, .int (nI (f))), (2, .int (nI (p))), (3, .int (nI (c))), (4, .int (nI (k)))], []) (Wd C e P Q m N R t Z) (.inl (some (.int (nI (c + hm e 2 k q)))), (Wd C e P Q m N R t Z))
  | 0, k, c, h1, h2 => by
    show eR _ _ _ _ _ _ _ _ (.inl (some (.int (nI c))), _)
    refine eR.step 2 (F' := (110, [(0, .ref 23), (1, .int (nI (f))), (2, .int (nI (p))), (3, .int (nI (c))), (4, .int (nI (k)))], [.int (nI 16), .int (nI (k))])) (h' := (Wd C e P Q m N R t Z)) (fun _ _ => rfl) ?_
    refine eR.icmp rfl true ((nc_ge (by omega) (by omega)).trans (decide_eq_true (by omega))) ?_
    refine eR.step 1 (F' := (138, [(0, .ref 23), (1, .int (nI (f))), (2, .int (nI (p))), (3, .int (nI (c))), (4, .int (nI (k)))], [.int (nI (c))])) (h' := (Wd C e P Q m N R t Z)) (fun _ _ => rfl) ?_
    exact eR.ret rfl rfl rfl
  | q + 1, k, c, h1, h2 => by
    have h6 := he.1 (32 + (16 * k))
    refine eR.step 2 (F' := (110, [(0, .ref 23), (1, .int (nI (f))), (2, .int (nI (p))), (3, .int (nI (c))), (4, .int (nI (k)))], [.int (nI 16), .int (nI (k))])) (h' := (Wd C e P Q m N R t Z)) (fun _ _ => rfl) ?_
    refine eR.icmp rfl false ((nc_ge (by omega) (by omega)).trans (decide_eq_false (by omega))) ?_
    refine eR.step 2 (F' := (116, [(0, .ref 23), (1, .int (nI (f))), (2, .int (nI (p))), (3, .int (nI (c))), (4, .int (nI (k)))], [.int (nI (k)), .ref 23])) (h' := (Wd C e P Q m N R t Z)) (fun _ _ => rfl) ?_
    refine eR.call (k' := 128) (as := [.ref 23, .int (nI (k))]) (rest := []) (v := some (.int (nI (e (32 + (16 * k)))))) (h1 := (Wd C e P Q m N R t Z)) rfl rfl rfl rfl (eg (Nat.le_of_ble_eq_true rfl) (show 21 ≤ lo by omega) (Nat.le_of_ble_eq_true rfl)) (m_kind (show 20 ≤ lo - 21 by omega) (by omega)) ?_
    refine eR.step 1 (F' := (120, [(0, .ref 23), (1, .int (nI (f))), (2, .int (nI (p))), (3, .int (nI (c))), (4, .int (nI (k)))], [.int (nI 2), .int (nI (e (32 + (16 * k))))])) (h' := (Wd C e P Q m N R t Z)) (fun _ _ => rfl) ?_
    rw [hm]
    by_cases h : e (32 + (16 * k)) = 2
    · rw [if_pos h, ← Nat.add_assoc]
      refine eR.icmp rfl false ((nc_ne (by omega) (by omega)).trans (decide_eq_false (by omega))) ?_
      refine eR.step 2 (F' := (125, [(0, .ref 23), (1, .int (nI (f))), (2, .int (nI (p))), (3, .int (nI (c))), (4, .int (nI (k)))], [.int (nI 1), .int (nI (c))])) (h' := (Wd C e P Q m N R t Z)) (fun _ _ => rfl) ?_
      refine eR.nadd rfl ?_
      refine eR.step 3 (F' := (134, [(0, .ref 23), (1, .int (nI (f))), (2, .int (nI (p))), (3, .int (nI (c + 1))), (4, .int (nI (k) + 1))], [])) (h' := (Wd C e P Q m N R t Z)) (fun _ _ => rfl) ?_
      rw [show nI (k) + 1 = nI (k + 1) from nI_add (k) 1]
      refine eR.step 1 (F' := (106, [(0, .ref 23), (1, .int (nI (f))), (2, .int (nI (p))), (3, .int (nI (c + 1))), (4, .int (nI (k + 1)))], [])) (h' := (Wd C e P Q m N R t Z)) (fun _ _ => rfl) ?_
      exact l_rmc hlo he q (k + 1) (c + 1) (by omega) (by omega)
    · rw [if_neg h, Nat.zero_add]
      refine eR.icmp rfl true ((nc_ne (by omega) (by omega)).trans (decide_eq_true (by omega))) ?_
      refine eR.step 3 (F' := (134, [(0, .ref 23), (1, .int (nI (f))), (2, .int (nI (p))), (3, .int (nI (c))), (4, .int (nI (k) + 1))], [])) (h' := (Wd C e P Q m N R t Z)) (fun _ _ => rfl) ?_
      rw [show nI (k) + 1 = nI (k + 1) from nI_add (k) 1]
      refine eR.step 1 (F' := (106, [(0, .ref 23), (1, .int (nI (f))), (2, .int (nI (p))), (3, .int (nI (c))), (4, .int (nI (k + 1)))], [])) (h' := (Wd C e P Q m N R t Z)) (fun _ _ => rfl) ?_
      exact l_rmc hlo he q (k + 1) c (by omega) (by omega)
theorem m_rmdir {cm sm fr lo : Nat} {C : gC} {e : Nat → Nat} {P Q : gT} {m : Nat} {N : Nat → Nat} {R : gS} {t : Nat} {Z : mj_H} (hlo : 159 ≤ lo) (V : qV e) (hN : ∀ k, N k < 256) (ht : ∀ k, P.1 k < 65536) (hl : P.2 ≤ 40) {f p m1 : Nat} {N1 : Nat → Nat} (hf0 : fo e P N = f) (hm0 : (pP P.1 P.2 N).2.1 = m1) (hN0 : (pP P.1 P.2 N).2.2 = N1) (h11 : e 11 = 1) (hfn : ¬ f = 0) (hf : f < 16) (hld : ld e N1 (m1 - 1) = p) (hm1 : 1 ≤ m1) (hm2 : m1 ≤ 20) (hN1 : ∀ k, N1 k < 256) (hp : p < 16) (hD : gD e p) {j : Nat} (hj : fd e p (fun q => N1 (7 * (m1 - 1) + q)) 2 (sn e p - 2) = j) (hj2 : 2 ≤ j) (hj24 : j < 24) (hk : ¬ e (32 + (16 * f)) = 1) (h1 : ¬ f = 1) (hDf : gD e f) (he0 : em e f 2 (sn e f - 2) = true) (hl3 : 1 ≤ (cz e (sa e p j) 8) (32 + (16 * p) + 1)) (E : qE (al (cz e (sa e p j) 8) p 4294967295)) : eE mm_P cm sm (fr + 8) lo 148 [.ref 23] (Wd C e P Q m N R t Z) (.inl (some (.int (nI (hm (gi (al (cz e (sa e p j) 8) p 4294967295) f) 2 1 15)))), (Wd C (gi (al (cz e (sa e p j) 8) p 4294967295) f) (P.1, 0) Q m1 N1 R 0 Z)) := by
  refine eE.of ?_
  have htf := tf_le e f
  refine eR.step 2 (F' := (2, [(0, .ref 23)], [.int (nI 0), .ref 23])) (h' := (Wd C e P Q m N R t Z)) (fun _ _ => rfl) ?_
  refine eR.call (k' := 142) (as := [.ref 23, .int (nI 0)]) (rest := []) (v := some (.int (nI (fo e P N)))) (h1 := (Wd C e (P.1, 0) Q (pP P.1 P.2 N).2.1 (pP P.1 P.2 N).2.2 R (tf e (fo e P N)) Z)) rfl rfl rfl rfl (eg (Nat.le_of_ble_eq_true rfl) (show 23 ≤ lo by omega) (Nat.le_of_ble_eq_true rfl)) (m_found0 (show 136 ≤ lo - 23 by omega) V hN ht hl) ?_
  rw [hf0, hm0, hN0]
  refine eR.step 3 (F' := (10, [(0, .ref 23), (1, .int (nI (f)))], [.int (nI ((tf e f)))])) (h' := (Wd C e (P.1, 0) Q m1 N1 R (tf e f) Z)) (fun _ _ => rfl) ?_
  rw [tf_0 h11 hfn]
  refine eR.ifc rfl false ((nc_ne (b := 0) (by omega) (by decide)).trans (decide_eq_false (by omega))) ?_
  refine eR.step 3 (F' := (16, [(0, .ref 23), (1, .int (nI (f)))], [.int (nI (f)), .ref 23, .ref 23])) (h' := (Wd C e (P.1, 0) Q m1 N1 R 0 Z)) (fun _ _ => rfl) ?_
  have h6 := V.B.dk.1 (32 + (16 * f))
  refine eR.call (k' := 128) (as := [.ref 23, .int (nI (f))]) (rest := [.ref 23]) (v := some (.int (nI (e (32 + (16 * f)))))) (h1 := (Wd C e (P.1, 0) Q m1 N1 R 0 Z)) rfl rfl rfl rfl (eg (Nat.le_of_ble_eq_true rfl) (show 21 ≤ lo by omega) (Nat.le_of_ble_eq_true rfl)) (m_kind (show 20 ≤ lo - 21 by omega) hf) ?_
  refine eR.step 1 (F' := (20, [(0, .ref 23), (1, .int (nI (f)))], [.int (nI 1), .int (nI (e (32 + (16 * f)))), .ref 23])) (h' := (Wd C e (P.1, 0) Q m1 N1 R 0 Z)) (fun _ _ => rfl) ?_
  refine eR.icmp rfl false ((nc_eq (by omega) (by omega)).trans (decide_eq_false (by omega))) ?_
  refine eR.step 2 (F' := (25, [(0, .ref 23), (1, .int (nI (f)))], [.int (nI 1), .int (nI (f)), .ref 23])) (h' := (Wd C e (P.1, 0) Q m1 N1 R 0 Z)) (fun _ _ => rfl) ?_
  refine eR.icmp rfl true ((nc_ne (by omega) (by omega)).trans (decide_eq_true (by omega))) ?_
  refine eR.step 2 (F' := (34, [(0, .ref 23), (1, .int (nI (f)))], [.int (nI 3), .int (nI 0), .ref 23])) (h' := (Wd C e (P.1, 0) Q m1 N1 R 0 Z)) (fun _ _ => rfl) ?_
  refine eR.call (k' := 136) (as := [.ref 23, .int (nI 0), .int (nI 3)]) (rest := []) (v := none) (h1 := (Wd C e (P.1, 0) Q m1 N1 R (ri false 0 3) Z)) rfl rfl rfl rfl (eg (Nat.le_of_ble_eq_true rfl) (show 22 ≤ lo by omega) (Nat.le_of_ble_eq_true rfl)) (m_refIf (b := false) (show 21 ≤ lo - 22 by omega) (by decide)) ?_
  rw [show ri false 0 3 = 0 from rfl]
  refine eR.step 2 (F' := (41, [(0, .ref 23), (1, .int (nI (f)))], [.int (nI 0)])) (h' := (Wd C e (P.1, 0) Q m1 N1 R 0 Z)) (fun _ _ => rfl) ?_
  refine eR.ifc rfl false ((nc_ne (b := 0) (by omega) (by decide)).trans (decide_eq_false (by omega))) ?_
  refine eR.step 3 (F' := (47, [(0, .ref 23), (1, .int (nI (f)))], [.int (nI (f)), .ref 23, .ref 23])) (h' := (Wd C e (P.1, 0) Q m1 N1 R 0 Z)) (fun _ _ => rfl) ?_
  refine eR.call (k' := 149) (as := [.ref 23, .int (nI (f))]) (rest := [.ref 23]) (v := some (.int (nI (bi (!em e f 2 (sn e f - 2)))))) (h1 := (Wd C e (P.1, 0) Q m1 N1 R 0 Z)) rfl rfl rfl rfl (eg (Nat.le_of_ble_eq_true rfl) (show 22 ≤ lo by omega) (Nat.le_of_ble_eq_true rfl)) (m_full (show 88 ≤ lo - 22 by omega) V.B.dk hDf) ?_
  rw [show bi (!em e f 2 (sn e f - 2)) = 0 by rw [he0]; rfl]
  refine eR.step 1 (F' := (51, [(0, .ref 23), (1, .int (nI (f)))], [.int (nI 4), .int (nI 0), .ref 23])) (h' := (Wd C e (P.1, 0) Q m1 N1 R 0 Z)) (fun _ _ => rfl) ?_
  refine eR.call (k' := 136) (as := [.ref 23, .int (nI 0), .int (nI 4)]) (rest := []) (v := none) (h1 := (Wd C e (P.1, 0) Q m1 N1 R (ri false 0 4) Z)) rfl rfl rfl rfl (eg (Nat.le_of_ble_eq_true rfl) (show 22 ≤ lo by omega) (Nat.le_of_ble_eq_true rfl)) (m_refIf (b := false) (show 21 ≤ lo - 22 by omega) (by decide)) ?_
  rw [show ri false 0 4 = 0 from rfl]
  refine eR.step 2 (F' := (58, [(0, .ref 23), (1, .int (nI (f)))], [.int (nI 0)])) (h' := (Wd C e (P.1, 0) Q m1 N1 R 0 Z)) (fun _ _ => rfl) ?_
  refine eR.ifc rfl true ((nc_eq (b := 0) (by omega) (by decide)).trans (decide_eq_true (by omega))) ?_
  refine eR.step 4 (F' := (69, [(0, .ref 23), (1, .int (nI (f)))], [.int (nI 1), .int (nI (m1)), .ref 23])) (h' := (Wd C e (P.1, 0) Q m1 N1 R 0 Z)) (fun _ _ => rfl) ?_
  refine eR.nsub rfl (by omega) ?_
  refine eR.call (k' := 127) (as := [.ref 23, .int (nI (m1 - 1))]) (rest := []) (v := some (.int (nI (ld e N1 (m1 - 1))))) (h1 := (Wd C e (P.1, 0) Q m1 N1 R 0 Z)) rfl rfl rfl rfl (eg (Nat.le_of_ble_eq_true rfl) (show 24 ≤ lo by omega) (Nat.le_of_ble_eq_true rfl)) (m_lead (show 112 ≤ lo - 24 by omega) V hN1 (by omega)) ?_
  rw [hld]
  refine eR.step 8 (F' := (83, [(0, .ref 23), (1, .int (nI (f))), (2, .int (nI (p)))], [.int (nI 1), .int (nI (m1)), .int (nI (p)), .ref 23, .int (nI (p)), .ref 23])) (h' := (Wd C e (P.1, 0) Q m1 N1 R 0 Z)) (fun _ _ => rfl) ?_
  refine eR.nsub rfl (by omega) ?_
  refine eR.call (k' := 129) (as := [.ref 23, .int (nI (p)), .int (nI (m1 - 1))]) (rest := [.int (nI (p)), .ref 23]) (v := some (.int (fi (fd e p (fun q => N1 (7 * (m1 - 1) + q)) 2 (sn e p - 2))))) (h1 := (Wd C e (P.1, 0) Q m1 N1 R 0 Z)) rfl rfl rfl rfl (eg (Nat.le_of_ble_eq_true rfl) (show 24 ≤ lo by omega) (Nat.le_of_ble_eq_true rfl)) (m_slotOf (show 88 ≤ lo - 24 by omega) V.B.dk hD (fun k => Nat.lt_trans (hN1 k) (by decide)) (by omega)) ?_
  rw [hj, fi_n (by omega)]
  refine eR.call (k' := 144) (as := [.ref 23, .int (nI (p)), .int (nI (j))]) (rest := []) (v := none) (h1 := (Wd C (cz e (sa e p j) 8) (P.1, 0) Q m1 N1 R 0 Z)) rfl rfl rfl rfl (eg (Nat.le_of_ble_eq_true rfl) (show 24 ≤ lo by omega) (Nat.le_of_ble_eq_true rfl)) (m_clr (show 88 ≤ lo - 24 by omega) V.B.dk hD hj24) ?_
  refine eR.step 3 (F' := (93, [(0, .ref 23), (1, .int (nI (f))), (2, .int (nI (p)))], [.int ((-1 : Int32)), .int (nI (p)), .ref 23])) (h' := (Wd C (cz e (sa e p j) 8) (P.1, 0) Q m1 N1 R 0 Z)) (fun _ _ => rfl) ?_
  refine eR.call (k' := 140) (as := [.ref 23, .int (nI (p)), .int ((-1 : Int32))]) (rest := []) (v := none) (h1 := (Wd C (al (cz e (sa e p j) 8) p 4294967295) (P.1, 0) Q m1 N1 R 0 Z)) rfl rfl rfl rfl (eg (Nat.le_of_ble_eq_true rfl) (show 22 ≤ lo by omega) (Nat.le_of_ble_eq_true rfl)) (m_addLm (show 20 ≤ lo - 22 by omega) (cz_dk V.B.dk _ _) hp hl3) ?_
  refine eR.step 2 (F' := (98, [(0, .ref 23), (1, .int (nI (f))), (2, .int (nI (p)))], [.int (nI (f)), .ref 23])) (h' := (Wd C (al (cz e (sa e p j) 8) p 4294967295) (P.1, 0) Q m1 N1 R 0 Z)) (fun _ _ => rfl) ?_
  refine eR.call (k' := 145) (as := [.ref 23, .int (nI (f))]) (rest := []) (v := none) (h1 := (Wd C (gi (al (cz e (sa e p j) 8) p 4294967295) f) (P.1, 0) Q m1 N1 R 0 Z)) rfl rfl rfl rfl (eg (Nat.le_of_ble_eq_true rfl) (show 22 ≤ lo by omega) (Nat.le_of_ble_eq_true rfl)) (m_rmI (show 114 ≤ lo - 22 by omega) E hf (by omega)) ?_
  refine eR.step 4 (F' := (106, [(0, .ref 23), (1, .int (nI (f))), (2, .int (nI (p))), (3, .int (nI 0)), (4, .int (nI 1))], [])) (h' := (Wd C (gi (al (cz e (sa e p j) 8) p 4294967295) f) (P.1, 0) Q m1 N1 R 0 Z)) (fun _ _ => rfl) ?_
  have hh := l_rmc (C := C) (P := (P.1, 0)) (Q := Q) (m := m1) (N := N1) (R := R) (t := 0) (Z := Z) (cm := cm) (sm := sm) (fr := fr + 5) (lo := lo) (f := f) (p := p) hlo (gi_dk (al_dk (cz_dk V.B.dk (sa e p j) 8) p 4294967295) f) 15 1 0 (by omega) (by omega)
  rw [Nat.zero_add] at hh
  exact hh

