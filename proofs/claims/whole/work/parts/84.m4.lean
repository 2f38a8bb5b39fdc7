theorem cz_ut (N : Nat → Nat) (a q : Nat) : cz (ut N a 0) (a + 1) q = cz N a (q + 1) := by
  funext k
  unfold cz ut
  by_cases h : k = a
  · rw [if_neg (by omega), if_pos h, if_pos (by omega)]
  · by_cases h2 : a + 1 ≤ k ∧ k < a + 1 + q
    · rw [if_pos h2, if_pos (by omega)]
    · rw [if_neg h2, if_neg h, if_neg (by omega)]
theorem mc_m1 {n : Nat} (h : n < 2 ^ 31) (h0 : 0 < n) : mj_cmp .lt (-1 : Int32) (nI n) = true := by
  refine decide_eq_true (Int32.lt_iff_toInt_lt.mpr ?_)
  rw [nI_toInt h]
  have : (-1 : Int32).toInt = -1 := by decide
  omega
theorem m_thrown {cm sm fr lo : Nat} {C : gC} {e : Nat → Nat} {P Q : gT} {m : Nat} {N : Nat → Nat} {R : gS} {t : Nat} {Z : mj_H}  : eE mm_P cm sm (fr + 1) lo 119 [.ref 23] (Wd C e P Q m N R t Z) (.inl (some (.int (nI (t)))), (Wd C e P Q m N R t Z)) := by
  refine eE.of ?_
  refine eR.step 2 (F' := (4, [(0, .ref 23)], [.int (nI (t))])) (h' := (Wd C e P Q m N R t Z)) (fun _ _ => rfl) ?_
  exact eR.ret rfl rfl rfl
theorem m_typeF {cm sm fr lo : Nat} {C : gC} {e : Nat → Nat} {P Q : gT} {m : Nat} {N : Nat → Nat} {R : gS} {t : Nat} {Z : mj_H} {c : Nat} (h : P.2 = 40) : eE mm_P cm sm (fr + 1) lo 120 [.ref 23, .int (nI (c))] (Wd C e P Q m N R t Z) (.inl (some (.int (-1))), (Wd C e P Q m N R 0 Z)) := by
  refine eE.of ?_
  refine eR.step 2 (F' := (2, [(0, .ref 23), (1, .int (nI (c)))], [.int (nI 0), .ref 23])) (h' := (Wd C e P Q m N R t Z)) (fun _ _ => rfl) ?_
  refine eR.sim rfl (F := (5, [(0, .ref 23), (1, .int (nI (c)))], [])) (h' := (Wd C e P Q m N R 0 Z)) (by rfl) ?_
  refine eR.step 3 (F' := (11, [(0, .ref 23), (1, .int (nI (c)))], [.int (nI 40), .int (nI (P.2))])) (h' := (Wd C e P Q m N R 0 Z)) (fun _ _ => rfl) ?_
  refine eR.icmp rfl false ((nc_ne (by omega) (by omega)).trans (decide_eq_false (by omega))) ?_
  refine eR.step 1 (F' := (15, [(0, .ref 23), (1, .int (nI (c)))], [.int ((-1 : Int32))])) (h' := (Wd C e P Q m N R 0 Z)) (fun _ _ => rfl) ?_
  exact eR.ret rfl rfl rfl
theorem m_type {cm sm fr lo : Nat} {C : gC} {e : Nat → Nat} {P Q : gT} {m : Nat} {N : Nat → Nat} {R : gS} {t : Nat} {Z : mj_H} {c : Nat} (hc : c < 65536) (h : P.2 < 40) : eE mm_P cm sm (fr + 1) lo 120 [.ref 23, .int (nI (c))] (Wd C e P Q m N R t Z) (.inl (some (.int (nI (P.2 + 1)))), (Wd C e (ut P.1 P.2 c, P.2 + 1) Q m N R 0 Z)) := by
  refine eE.of ?_
  refine eR.step 2 (F' := (2, [(0, .ref 23), (1, .int (nI (c)))], [.int (nI 0), .ref 23])) (h' := (Wd C e P Q m N R t Z)) (fun _ _ => rfl) ?_
  refine eR.sim rfl (F := (5, [(0, .ref 23), (1, .int (nI (c)))], [])) (h' := (Wd C e P Q m N R 0 Z)) (by rfl) ?_
  refine eR.step 3 (F' := (11, [(0, .ref 23), (1, .int (nI (c)))], [.int (nI 40), .int (nI (P.2))])) (h' := (Wd C e P Q m N R 0 Z)) (fun _ _ => rfl) ?_
  refine eR.icmp rfl true ((nc_ne (by omega) (by omega)).trans (decide_eq_true (by omega))) ?_
  refine eR.step 5 (F' := (25, [(0, .ref 23), (1, .int (nI (c)))], [.int (nI (c)), .int (nI (P.2)), .ref 25])) (h' := (Wd C e P Q m N R 0 Z)) (fun _ _ => rfl) ?_
  refine eR.st25 rfl (by omega) (by omega) ?_
  refine eR.step 4 (F' := (32, [(0, .ref 23), (1, .int (nI (c)))], [.int (nI 1), .int (nI ((ut P.1 (P.2) (c), P.2).2)), .ref 23])) (h' := (Wd C e (ut P.1 (P.2) (c), P.2) Q m N R 0 Z)) (fun _ _ => rfl) ?_
  refine eR.nadd rfl ?_
  refine eR.sim rfl (F := (36, [(0, .ref 23), (1, .int (nI (c)))], [])) (h' := (Wd C e ((ut P.1 (P.2) (c), P.2).1, ((ut P.1 (P.2) (c), P.2).2) + 1) Q m N R 0 Z)) (by rfl) ?_
  refine eR.step 2 (F' := (40, [(0, .ref 23), (1, .int (nI (c)))], [.int (nI (((ut P.1 (P.2) (c), P.2).1, ((ut P.1 (P.2) (c), P.2).2) + 1).2))])) (h' := (Wd C e ((ut P.1 (P.2) (c), P.2).1, ((ut P.1 (P.2) (c), P.2).2) + 1) Q m N R 0 Z)) (fun _ _ => rfl) ?_
  exact eR.ret rfl rfl rfl
theorem l_keep {cm sm fr lo : Nat} {C : gC} {e : Nat → Nat} {P : gT} {m : Nat} {N : Nat → Nat} {R : gS} {t : Nat} {Z : mj_H} (ht : ∀ k, P.1 k < 65536) (hl : P.2 ≤ 40) {r : mj_O × mj_H} : ∀ (q i : Nat) (Q : gT), i + q = P.2 → eR mm_P cm sm fr lo 121 (33, [(0, .ref 23), (1, .int (nI (P.2)))], []) (Wd C e P (bc P.1 Q.1 i q, Q.2) m N R t Z) r → eR mm_P cm sm fr lo 121 (7, [(0, .ref 23), (1, .int (nI (i)))], []) (Wd C e P Q m N R t Z) r
  | 0, i, Q, h1, w => by
    have e0 : i = P.2 := by omega
    subst e0
    refine eR.step 3 (F' := (12, [(0, .ref 23), (1, .int (nI (P.2)))], [.int (nI (P.2)), .int (nI (P.2))])) (h' := (Wd C e P Q m N R t Z)) (fun _ _ => rfl) ?_
    refine eR.icmp rfl true ((nc_ge (by omega) (by omega)).trans (decide_eq_true (by omega))) ?_
    exact w
  | q + 1, i, Q, h1, w => by
    have h6 := ht i
    refine eR.step 3 (F' := (12, [(0, .ref 23), (1, .int (nI (i)))], [.int (nI (P.2)), .int (nI (i))])) (h' := (Wd C e P Q m N R t Z)) (fun _ _ => rfl) ?_
    refine eR.icmp rfl false ((nc_ge (by omega) (by omega)).trans (decide_eq_false (by omega))) ?_
    refine eR.step 6 (F' := (25, [(0, .ref 23), (1, .int (nI (i)))], [.int (nI (i)), .ref 25, .int (nI (i)), .ref 26])) (h' := (Wd C e P Q m N R t Z)) (fun _ _ => rfl) ?_
    refine eR.ld25 rfl (by omega) ?_
    refine eR.st26 rfl (by omega) (by omega) ?_
    refine eR.step 1 (F' := (30, [(0, .ref 23), (1, .int (nI (i) + 1))], [])) (h' := (Wd C e P (ut Q.1 (i) (P.1 (i)), Q.2) m N R t Z)) (fun _ _ => rfl) ?_
    rw [show nI (i) + 1 = nI (i + 1) from nI_add (i) 1]
    refine eR.step 1 (F' := (7, [(0, .ref 23), (1, .int (nI (i + 1)))], [])) (h' := (Wd C e P (ut Q.1 (i) (P.1 (i)), Q.2) m N R t Z)) (fun _ _ => rfl) ?_
    exact l_keep ht hl q (i + 1) _ (by omega) w
theorem m_keep {cm sm fr lo : Nat} {C : gC} {e : Nat → Nat} {P Q : gT} {m : Nat} {N : Nat → Nat} {R : gS} {t : Nat} {Z : mj_H} (ht : ∀ k, P.1 k < 65536) (hl : P.2 ≤ 40) : eE mm_P cm sm (fr + 1) lo 121 [.ref 23] (Wd C e P Q m N R t Z) (.inl (some (.int (nI (P.2)))), (Wd C e (P.1, 0) (bc P.1 Q.1 0 P.2, P.2) m N R 0 Z)) := by
  refine eE.of ?_
  refine eR.step 2 (F' := (2, [(0, .ref 23)], [.int (nI 0), .ref 23])) (h' := (Wd C e P Q m N R t Z)) (fun _ _ => rfl) ?_
  refine eR.sim rfl (F := (5, [(0, .ref 23)], [])) (h' := (Wd C e P Q m N R 0 Z)) (by rfl) ?_
  refine eR.step 2 (F' := (7, [(0, .ref 23), (1, .int (nI 0))], [])) (h' := (Wd C e P Q m N R 0 Z)) (fun _ _ => rfl) ?_
  refine l_keep ht hl P.2 0 Q (by omega) ?_
  refine eR.step 3 (F' := (38, [(0, .ref 23), (1, .int (nI (P.2)))], [.int (nI (P.2)), .ref 23])) (h' := (Wd C e P (bc P.1 Q.1 0 P.2, Q.2) m N R 0 Z)) (fun _ _ => rfl) ?_
  refine eR.sim rfl (F := (41, [(0, .ref 23), (1, .int (nI (P.2)))], [])) (h' := (Wd C e P ((bc P.1 Q.1 0 P.2, Q.2).1, P.2) m N R 0 Z)) (by rfl) ?_
  refine eR.step 2 (F' := (43, [(0, .ref 23), (1, .int (nI (P.2)))], [.int (nI 0), .ref 23])) (h' := (Wd C e P (bc P.1 Q.1 0 P.2, P.2) m N R 0 Z)) (fun _ _ => rfl) ?_
  refine eR.sim rfl (F := (46, [(0, .ref 23), (1, .int (nI (P.2)))], [])) (h' := (Wd C e (P.1, 0) (bc P.1 Q.1 0 P.2, P.2) m N R 0 Z)) (by rfl) ?_
  refine eR.step 2 (F' := (50, [(0, .ref 23), (1, .int (nI (P.2)))], [.int (nI ((bc P.1 Q.1 0 P.2, P.2).2))])) (h' := (Wd C e (P.1, 0) (bc P.1 Q.1 0 P.2, P.2) m N R 0 Z)) (fun _ _ => rfl) ?_
  exact eR.ret rfl rfl rfl
theorem m_clean {cm sm fr lo : Nat} {C : gC} {e : Nat → Nat} {P Q : gT} {m : Nat} {N : Nat → Nat} {R : gS} {t : Nat} {Z : mj_H} (he : dk e) : eE mm_P cm sm (fr + 1) lo 126 [.ref 23] (Wd C e P Q m N R t Z) (.inl (some (.int (nI (bi (decide (e 11 = 1)))))), (Wd C e P Q m N R t Z)) := by
  refine eE.of ?_
  have h6 := he.1 11
  refine eR.step 3 (F' := (6, [(0, .ref 23)], [.int (nI 11), .ref 24])) (h' := (Wd C e P Q m N R t Z)) (fun _ _ => rfl) ?_
  refine eR.ld24 rfl (by omega) ?_
  refine eR.step 1 (F' := (8, [(0, .ref 23)], [.int (nI 1), .int (nI (e (11)))])) (h' := (Wd C e P Q m N R t Z)) (fun _ _ => rfl) ?_
  by_cases h : e 11 = 1
  · rw [bj_t (decide_eq_true h)]
    refine eR.icmp rfl false ((nc_ne (by omega) (by omega)).trans (decide_eq_false (by omega))) ?_
    refine eR.step 2 (F' := (16, [(0, .ref 23)], [.int (nI 1)])) (h' := (Wd C e P Q m N R t Z)) (fun _ _ => rfl) ?_
    exact eR.ret rfl rfl rfl
  · rw [bj_f (fun z => h (of_decide_eq_true z))]
    refine eR.icmp rfl true ((nc_ne (by omega) (by omega)).trans (decide_eq_true (by omega))) ?_
    refine eR.step 1 (F' := (16, [(0, .ref 23)], [.int (nI 0)])) (h' := (Wd C e P Q m N R t Z)) (fun _ _ => rfl) ?_
    exact eR.ret rfl rfl rfl
def rt (t c : Nat) : Nat := if t = 0 then c else t
theorem m_refuse {cm sm fr lo : Nat} {C : gC} {e : Nat → Nat} {P Q : gT} {m : Nat} {N : Nat → Nat} {R : gS} {t : Nat} {Z : mj_H} {c : Nat} (ht : t < 2 ^ 20) : eE mm_P cm sm (fr + 1) lo 137 [.ref 23, .int (nI (c))] (Wd C e P Q m N R t Z) (.inl (none), (Wd C e P Q m N R (rt t c) Z)) := by
  unfold rt
  refine eE.of ?_
  refine eR.step 3 (F' := (5, [(0, .ref 23), (1, .int (nI (c)))], [.int (nI (t)), .ref 23])) (h' := (Wd C e P Q m N R t Z)) (fun _ _ => rfl) ?_
  by_cases h : t = 0
  · rw [if_pos h]
    refine eR.ifc rfl false ((nc_ne (b := 0) (by omega) (by decide)).trans (decide_eq_false (by omega))) ?_
    refine eR.step 2 (F' := (16, [(0, .ref 23), (1, .int (nI (c)))], [.int (nI (c)), .ref 23])) (h' := (Wd C e P Q m N R t Z)) (fun _ _ => rfl) ?_
    refine eR.sim rfl (F := (19, [(0, .ref 23), (1, .int (nI (c)))], [])) (h' := (Wd C e P Q m N R c Z)) (by rfl) ?_
    exact eR.ret rfl rfl rfl
  · rw [if_neg h]
    refine eR.ifc rfl true ((nc_ne (b := 0) (by omega) (by decide)).trans (decide_eq_true (by omega))) ?_
    refine eR.step 2 (F' := (16, [(0, .ref 23), (1, .int (nI (c)))], [.int (nI (t)), .ref 23])) (h' := (Wd C e P Q m N R t Z)) (fun _ _ => rfl) ?_
    refine eR.sim rfl (F := (19, [(0, .ref 23), (1, .int (nI (c)))], [])) (h' := (Wd C e P Q m N R t Z)) (by rfl) ?_
    exact eR.ret rfl rfl rfl
def ri (b : Bool) (t c : Nat) : Nat := if b = true then rt t c else t
theorem m_refIf {cm sm fr lo : Nat} {C : gC} {e : Nat → Nat} {P Q : gT} {m : Nat} {N : Nat → Nat} {R : gS} {t : Nat} {Z : mj_H} (hlo : 21 ≤ lo) {b : Bool} {c : Nat} (ht : t < 2 ^ 20) : eE mm_P cm sm (fr + 2) lo 136 [.ref 23, .int (nI (bi b)), .int (nI (c))] (Wd C e P Q m N R t Z) (.inl (none), (Wd C e P Q m N R (ri b t c) Z)) := by
  unfold ri
  refine eE.of ?_
  refine eR.step 1 (F' := (1, [(0, .ref 23), (1, .int (nI (bi b))), (2, .int (nI (c)))], [.int (nI (bi b))])) (h' := (Wd C e P Q m N R t Z)) (fun _ _ => rfl) ?_
  by_cases h : b = true
  · rw [if_pos h]
    refine eR.ifc rfl false (mb_et h) ?_
    refine eR.step 2 (F' := (6, [(0, .ref 23), (1, .int (nI (bi b))), (2, .int (nI (c)))], [.int (nI (c)), .ref 23])) (h' := (Wd C e P Q m N R t Z)) (fun _ _ => rfl) ?_
    refine eR.call (k' := 137) (as := [.ref 23, .int (nI (c))]) (rest := []) (v := none) (h1 := (Wd C e P Q m N R (rt t c) Z)) rfl rfl rfl rfl (eg (Nat.le_of_ble_eq_true rfl) (show 21 ≤ lo by omega) (Nat.le_of_ble_eq_true rfl)) (m_refuse ht) ?_
    exact eR.ret rfl rfl rfl
  · rw [if_neg h]
    refine eR.ifc rfl true (mb_ef h) ?_
    exact eR.ret rfl rfl rfl
theorem m_char0 {cm sm fr lo : Nat} {C : gC} {e : Nat → Nat} {P Q : gT} {m : Nat} {N : Nat → Nat} {R : gS} {t : Nat} {Z : mj_H} (hl : P.2 ≤ 40) {k : Nat} (hk : k < P.2) : eE mm_P cm sm (fr + 1) lo 125 [.ref 23, .int (nI 0), .int (nI (k))] (Wd C e P Q m N R t Z) (.inl (some (.int (nI (P.1 k)))), (Wd C e P Q m N R t Z)) := by
  refine eE.of ?_
  refine eR.step 1 (F' := (1, [(0, .ref 23), (1, .int (nI 0)), (2, .int (nI (k)))], [.int (nI 0)])) (h' := (Wd C e P Q m N R t Z)) (fun _ _ => rfl) ?_
  refine eR.ifc rfl true rfl ?_
  refine eR.step 3 (F' := (30, [(0, .ref 23), (1, .int (nI 0)), (2, .int (nI (k)))], [.int (nI (P.2)), .int (nI (k))])) (h' := (Wd C e P Q m N R t Z)) (fun _ _ => rfl) ?_
  refine eR.icmp rfl false ((nc_ge (by omega) (by omega)).trans (decide_eq_false (by omega))) ?_
  refine eR.step 3 (F' := (38, [(0, .ref 23), (1, .int (nI 0)), (2, .int (nI (k)))], [.int (nI (k)), .ref 25])) (h' := (Wd C e P Q m N R t Z)) (fun _ _ => rfl) ?_
  refine eR.ld25 rfl (by omega) ?_
  refine eR.step 1 (F' := (43, [(0, .ref 23), (1, .int (nI 0)), (2, .int (nI (k)))], [.int (nI (P.1 (k)))])) (h' := (Wd C e P Q m N R t Z)) (fun _ _ => rfl) ?_
  exact eR.ret rfl rfl rfl
theorem m_charE0 {cm sm fr lo : Nat} {C : gC} {e : Nat → Nat} {P Q : gT} {m : Nat} {N : Nat → Nat} {R : gS} {t : Nat} {Z : mj_H} (hl : P.2 ≤ 40) {k : Nat} (hk2 : k ≤ 40) (hk : P.2 ≤ k) : eE mm_P cm sm (fr + 1) lo 125 [.ref 23, .int (nI 0), .int (nI (k))] (Wd C e P Q m N R t Z) (.inl (some (.int (-1))), (Wd C e P Q m N R t Z)) := by
  refine eE.of ?_
  refine eR.step 1 (F' := (1, [(0, .ref 23), (1, .int (nI 0)), (2, .int (nI (k)))], [.int (nI 0)])) (h' := (Wd C e P Q m N R t Z)) (fun _ _ => rfl) ?_
  refine eR.ifc rfl true rfl ?_
  refine eR.step 3 (F' := (30, [(0, .ref 23), (1, .int (nI 0)), (2, .int (nI (k)))], [.int (nI (P.2)), .int (nI (k))])) (h' := (Wd C e P Q m N R t Z)) (fun _ _ => rfl) ?_
  refine eR.icmp rfl true ((nc_ge (by omega) (by omega)).trans (decide_eq_true (by omega))) ?_
  refine eR.step 1 (F' := (43, [(0, .ref 23), (1, .int (nI 0)), (2, .int (nI (k)))], [.int ((-1 : Int32))])) (h' := (Wd C e P Q m N R t Z)) (fun _ _ => rfl) ?_
  exact eR.ret rfl rfl rfl
theorem m_char1 {cm sm fr lo : Nat} {C : gC} {e : Nat → Nat} {P Q : gT} {m : Nat} {N : Nat → Nat} {R : gS} {t : Nat} {Z : mj_H} (hl : Q.2 ≤ 40) {k : Nat} (hk : k < Q.2) : eE mm_P cm sm (fr + 1) lo 125 [.ref 23, .int (nI 1), .int (nI (k))] (Wd C e P Q m N R t Z) (.inl (some (.int (nI (Q.1 k)))), (Wd C e P Q m N R t Z)) := by
  refine eE.of ?_
  refine eR.step 1 (F' := (1, [(0, .ref 23), (1, .int (nI 1)), (2, .int (nI (k)))], [.int (nI 1)])) (h' := (Wd C e P Q m N R t Z)) (fun _ _ => rfl) ?_
  refine eR.ifc rfl false rfl ?_
  refine eR.step 3 (F' := (9, [(0, .ref 23), (1, .int (nI 1)), (2, .int (nI (k)))], [.int (nI (Q.2)), .int (nI (k))])) (h' := (Wd C e P Q m N R t Z)) (fun _ _ => rfl) ?_
  refine eR.icmp rfl false ((nc_ge (by omega) (by omega)).trans (decide_eq_false (by omega))) ?_
  refine eR.step 3 (F' := (17, [(0, .ref 23), (1, .int (nI 1)), (2, .int (nI (k)))], [.int (nI (k)), .ref 26])) (h' := (Wd C e P Q m N R t Z)) (fun _ _ => rfl) ?_
  refine eR.ld26 rfl (by omega) ?_
  refine eR.step 1 (F' := (43, [(0, .ref 23), (1, .int (nI 1)), (2, .int (nI (k)))], [.int (nI (Q.1 (k)))])) (h' := (Wd C e P Q m N R t Z)) (fun _ _ => rfl) ?_
  exact eR.ret rfl rfl rfl
theorem m_charE1 {cm sm fr lo : Nat} {C : gC} {e : Nat → Nat} {P Q : gT} {m : Nat} {N : Nat → Nat} {R : gS} {t : Nat} {Z : mj_H} (hl : Q.2 ≤ 40) {k : Nat} (hk2 : k ≤ 40) (hk : Q.2 ≤ k) : eE mm_P cm sm (fr + 1) lo 125 [.ref 23, .int (nI 1), .int (nI (k))] (Wd C e P Q m N R t Z) (.inl (some (.int (-1))), (Wd C e P Q m N R t Z)) := by
  refine eE.of ?_
  refine eR.step 1 (F' := (1, [(0, .ref 23), (1, .int (nI 1)), (2, .int (nI (k)))], [.int (nI 1)])) (h' := (Wd C e P Q m N R t Z)) (fun _ _ => rfl) ?_
  refine eR.ifc rfl false rfl ?_
  refine eR.step 3 (F' := (9, [(0, .ref 23), (1, .int (nI 1)), (2, .int (nI (k)))], [.int (nI (Q.2)), .int (nI (k))])) (h' := (Wd C e P Q m N R t Z)) (fun _ _ => rfl) ?_
  refine eR.icmp rfl true ((nc_ge (by omega) (by omega)).trans (decide_eq_true (by omega))) ?_
  refine eR.step 2 (F' := (43, [(0, .ref 23), (1, .int (nI 1)), (2, .int (nI (k)))], [.int ((-1 : Int32))])) (h' := (Wd C e P Q m N R t Z)) (fun _ _ => rfl) ?_
  exact eR.ret rfl rfl rfl
theorem l_pz0 {cm sm fr lo : Nat} {C : gC} {e : Nat → Nat} {P Q : gT} {m : Nat} {R : gS} {t : Nat} {Z : mj_H} {k c : Nat} (hm : m < 20) {r : mj_O × mj_H} : ∀ (q j : Nat) (N : Nat → Nat), j + q = 7 → eR mm_P cm sm fr lo 124 (101, [(0, .ref 23), (1, .int (nI 0)), (2, .int (nI (P.2))), (3, .int (nI (k))), (4, .int (nI (c))), (5, .int (nI 7))], []) (Wd C e P Q m (cz N (7 * m + j) q) R t Z) r → eR mm_P cm sm fr lo 124 (72, [(0, .ref 23), (1, .int (nI 0)), (2, .int (nI (P.2))), (3, .int (nI (k))), (4, .int (nI (c))), (5, .int (nI (j)))], []) (Wd C e P Q m N R t Z) r
  | 0, j, N, h1, w => by
    have e0 : j = 7 := by omega
    subst e0
    rw [cz_0] at w
    refine eR.step 2 (F' := (76, [(0, .ref 23), (1, .int (nI 0)), (2, .int (nI (P.2))), (3, .int (nI (k))), (4, .int (nI (c))), (5, .int (nI 7))], [.int (nI 7), .int (nI 7)])) (h' := (Wd C e P Q m N R t Z)) (fun _ _ => rfl) ?_
    refine eR.icmp rfl true ((nc_ge (by omega) (by omega)).trans (decide_eq_true (by omega))) ?_
    exact w
  | q + 1, j, N, h1, w => by
    refine eR.step 2 (F' := (76, [(0, .ref 23), (1, .int (nI 0)), (2, .int (nI (P.2))), (3, .int (nI (k))), (4, .int (nI (c))), (5, .int (nI (j)))], [.int (nI 7), .int (nI (j))])) (h' := (Wd C e P Q m N R t Z)) (fun _ _ => rfl) ?_
    refine eR.icmp rfl false ((nc_ge (by omega) (by omega)).trans (decide_eq_false (by omega))) ?_
    refine eR.step 5 (F' := (89, [(0, .ref 23), (1, .int (nI 0)), (2, .int (nI (P.2))), (3, .int (nI (k))), (4, .int (nI (c))), (5, .int (nI (j)))], [.int (nI (m)), .int (nI 7), .ref 27])) (h' := (Wd C e P Q m N R t Z)) (fun _ _ => rfl) ?_
    refine eR.nmul rfl ?_
    refine eR.step 1 (F' := (92, [(0, .ref 23), (1, .int (nI 0)), (2, .int (nI (P.2))), (3, .int (nI (k))), (4, .int (nI (c))), (5, .int (nI (j)))], [.int (nI (j)), .int (nI (7 * m)), .ref 27])) (h' := (Wd C e P Q m N R t Z)) (fun _ _ => rfl) ?_
    refine eR.nadd rfl ?_
    refine eR.step 1 (F' := (94, [(0, .ref 23), (1, .int (nI 0)), (2, .int (nI (P.2))), (3, .int (nI (k))), (4, .int (nI (c))), (5, .int (nI (j)))], [.int (nI 0), .int (nI ((7 * m) + j)), .ref 27])) (h' := (Wd C e P Q m N R t Z)) (fun _ _ => rfl) ?_
    refine eR.st27 rfl (by omega) ?_
    refine eR.step 1 (F' := (98, [(0, .ref 23), (1, .int (nI 0)), (2, .int (nI (P.2))), (3, .int (nI (k))), (4, .int (nI (c))), (5, .int (nI (j) + 1))], [])) (h' := (Wd C e P Q m (ut N ((7 * m) + j) (0)) R t Z)) (fun _ _ => rfl) ?_
    rw [show nI (j) + 1 = nI (j + 1) from nI_add (j) 1]
    refine eR.step 1 (F' := (72, [(0, .ref 23), (1, .int (nI 0)), (2, .int (nI (P.2))), (3, .int (nI (k))), (4, .int (nI (c))), (5, .int (nI (j + 1)))], [])) (h' := (Wd C e P Q m (ut N ((7 * m) + j) (0)) R t Z)) (fun _ _ => rfl) ?_
    refine l_pz0 hm q (j + 1) _ (by omega) ?_
    rw [show cz (ut N (7 * m + j) 0) (7 * m + (j + 1)) q = cz N (7 * m + j) (q + 1) from cz_ut ..]
    exact w
theorem l_parse0 {cm sm fr lo : Nat} {C : gC} {e : Nat → Nat} {P Q : gT} {R : gS} {t : Nat} {Z : mj_H} (hlo : 22 ≤ lo) (ht : ∀ k, P.1 k < 65536) (hl : P.2 ≤ 40) : ∀ (n k c m : Nat) (N : Nat → Nat), k + n = P.2 → c ≤ 7 → 2 * m + 1 + c ≤ k → eR mm_P cm sm (fr + 1) lo 124 (101, [(0, .ref 23), (1, .int (nI 0)), (2, .int (nI (P.2))), (3, .int (nI (k))), (4, .int (nI (c))), (5, .int (nI 7))], []) (Wd C e P Q m N R t Z) (.inl (some (.int (nI (bi (pI P.1 n k c m N).1)))), (Wd C e P Q (pI P.1 n k c m N).2.1 (pI P.1 n k c m N).2.2 R t Z))
  | 0, k, c, m, N, h1, h2, h3 => by
    refine eR.step 3 (F' := (104, [(0, .ref 23), (1, .int (nI 0)), (2, .int (nI (P.2))), (3, .int (nI (k))), (4, .int (nI (c))), (5, .int (nI 7))], [.int (nI (k)), .int (nI 0), .ref 23])) (h' := (Wd C e P Q m N R t Z)) (fun _ _ => rfl) ?_
    refine eR.call (k' := 125) (as := [.ref 23, .int (nI 0), .int (nI (k))]) (rest := []) (v := some (.int (-1))) (h1 := (Wd C e P Q m N R t Z)) rfl rfl rfl rfl (eg (Nat.le_of_ble_eq_true rfl) (show 22 ≤ lo by omega) (Nat.le_of_ble_eq_true rfl)) (m_charE0 hl (by omega) (by omega)) ?_
    refine eR.step 1 (F' := (109, [(0, .ref 23), (1, .int (nI 0)), (2, .int (nI (P.2))), (3, .int (nI (k))), (4, .int (nI (c))), (5, .int (nI 7))], [.int (nI 97), .int (-1)])) (h' := (Wd C e P Q m N R t Z)) (fun _ _ => rfl) ?_
    refine eR.icmp rfl true (mc_m1 (by decide) (by decide)) ?_
    refine eR.step 1 (F' := (164, [(0, .ref 23), (1, .int (nI 0)), (2, .int (nI (P.2))), (3, .int (nI (k))), (4, .int (nI (c))), (5, .int (nI 7))], [.int (nI (c))])) (h' := (Wd C e P Q m N R t Z)) (fun _ _ => rfl) ?_
    rw [pI]
    by_cases h : c = 0
    · rw [if_pos h]
      refine eR.ifc rfl false ((nc_ne (b := 0) (by omega) (by decide)).trans (decide_eq_false (by omega))) ?_
      refine eR.step 1 (F' := (168, [(0, .ref 23), (1, .int (nI 0)), (2, .int (nI (P.2))), (3, .int (nI (k))), (4, .int (nI (c))), (5, .int (nI 7))], [.int (nI 0)])) (h' := (Wd C e P Q m N R t Z)) (fun _ _ => rfl) ?_
      exact eR.ret rfl rfl rfl
    · rw [if_neg h]
      refine eR.ifc rfl true ((nc_ne (b := 0) (by omega) (by decide)).trans (decide_eq_true (by omega))) ?_
      refine eR.step 4 (F' := (175, [(0, .ref 23), (1, .int (nI 0)), (2, .int (nI (P.2))), (3, .int (nI (k))), (4, .int (nI (c))), (5, .int (nI 7))], [.int (nI 1), .int (nI (m)), .ref 23])) (h' := (Wd C e P Q m N R t Z)) (fun _ _ => rfl) ?_
      refine eR.nadd rfl ?_
      refine eR.sim rfl (F := (179, [(0, .ref 23), (1, .int (nI 0)), (2, .int (nI (P.2))), (3, .int (nI (k))), (4, .int (nI (c))), (5, .int (nI 7))], [])) (h' := (Wd C e P Q (m + 1) N R t Z)) (by rfl) ?_
      refine eR.step 3 (F' := (47, [(0, .ref 23), (1, .int (nI 0)), (2, .int (nI (P.2))), (3, .int (nI (k))), (4, .int (nI (c))), (5, .int (nI 7))], [.int (nI (P.2)), .int (nI (k))])) (h' := (Wd C e P Q (m + 1) N R t Z)) (fun _ _ => rfl) ?_
      refine eR.icmp rfl true ((nc_ge (by omega) (by omega)).trans (decide_eq_true (by omega))) ?_
      refine eR.step 1 (F' := (183, [(0, .ref 23), (1, .int (nI 0)), (2, .int (nI (P.2))), (3, .int (nI (k))), (4, .int (nI (c))), (5, .int (nI 7))], [.int (nI (P.2))])) (h' := (Wd C e P Q (m + 1) N R t Z)) (fun _ _ => rfl) ?_
      refine eR.ifc rfl false ((nc_le (b := 0) (by omega) (by decide)).trans (decide_eq_false (by omega))) ?_
      refine eR.step 2 (F' := (191, [(0, .ref 23), (1, .int (nI 0)), (2, .int (nI (P.2))), (3, .int (nI (k))), (4, .int (nI (c))), (5, .int (nI 7))], [.int (nI 1)])) (h' := (Wd C e P Q (m + 1) N R t Z)) (fun _ _ => rfl) ?_
      exact eR.ret rfl rfl rfl
  | n + 1, k, c, m, N, h1, h2, h3 => by
    have h7 := ht k
    refine eR.step 3 (F' := (104, [(0, .ref 23), (1, .int (nI 0)), (2, .int (nI (P.2))), (3, .int (nI (k))), (4, .int (nI (c))), (5, .int (nI 7))], [.int (nI (k)), .int (nI 0), .ref 23])) (h' := (Wd C e P Q m N R t Z)) (fun _ _ => rfl) ?_
    refine eR.call (k' := 125) (as := [.ref 23, .int (nI 0), .int (nI (k))]) (rest := []) (v := some (.int (nI (P.1 k)))) (h1 := (Wd C e P Q m N R t Z)) rfl rfl rfl rfl (eg (Nat.le_of_ble_eq_true rfl) (show 22 ≤ lo by omega) (Nat.le_of_ble_eq_true rfl)) (m_char0 hl (by omega)) ?_
    refine eR.step 1 (F' := (109, [(0, .ref 23), (1, .int (nI 0)), (2, .int (nI (P.2))), (3, .int (nI (k))), (4, .int (nI (c))), (5, .int (nI 7))], [.int (nI 97), .int (nI (P.1 k))])) (h' := (Wd C e P Q m N R t Z)) (fun _ _ => rfl) ?_
    rw [pI]
    by_cases a : 97 ≤ P.1 k
    · refine eR.icmp rfl false ((nc_lt (by omega) (by omega)).trans (decide_eq_false (by omega))) ?_
      refine eR.step 3 (F' := (115, [(0, .ref 23), (1, .int (nI 0)), (2, .int (nI (P.2))), (3, .int (nI (k))), (4, .int (nI (c))), (5, .int (nI 7))], [.int (nI (k)), .int (nI 0), .ref 23])) (h' := (Wd C e P Q m N R t Z)) (fun _ _ => rfl) ?_
      refine eR.call (k' := 125) (as := [.ref 23, .int (nI 0), .int (nI (k))]) (rest := []) (v := some (.int (nI (P.1 k)))) (h1 := (Wd C e P Q m N R t Z)) rfl rfl rfl rfl (eg (Nat.le_of_ble_eq_true rfl) (show 22 ≤ lo by omega) (Nat.le_of_ble_eq_true rfl)) (m_char0 hl (by omega)) ?_
      refine eR.step 1 (F' := (120, [(0, .ref 23), (1, .int (nI 0)), (2, .int (nI (P.2))), (3, .int (nI (k))), (4, .int (nI (c))), (5, .int (nI 7))], [.int (nI 122), .int (nI (P.1 k))])) (h' := (Wd C e P Q m N R t Z)) (fun _ _ => rfl) ?_
      by_cases b : P.1 k ≤ 122
      · rw [if_pos ⟨a, b⟩]
        refine eR.icmp rfl false ((nc_gt (by omega) (by omega)).trans (decide_eq_false (by omega))) ?_
        refine eR.step 2 (F' := (127, [(0, .ref 23), (1, .int (nI 0)), (2, .int (nI (P.2))), (3, .int (nI (k))), (4, .int (nI (c))), (5, .int (nI 7))], [.int (nI 7), .int (nI (c))])) (h' := (Wd C e P Q m N R t Z)) (fun _ _ => rfl) ?_
        by_cases c7 : c = 7
        · rw [if_pos c7]
          refine eR.icmp rfl false ((nc_ne (by omega) (by omega)).trans (decide_eq_false (by omega))) ?_
          refine eR.step 1 (F' := (131, [(0, .ref 23), (1, .int (nI 0)), (2, .int (nI (P.2))), (3, .int (nI (k))), (4, .int (nI (c))), (5, .int (nI 7))], [.int (nI 0)])) (h' := (Wd C e P Q m N R t Z)) (fun _ _ => rfl) ?_
          exact eR.ret rfl rfl rfl
        · rw [if_neg c7]
          refine eR.icmp rfl true ((nc_ne (by omega) (by omega)).trans (decide_eq_true (by omega))) ?_
          refine eR.step 5 (F' := (142, [(0, .ref 23), (1, .int (nI 0)), (2, .int (nI (P.2))), (3, .int (nI (k))), (4, .int (nI (c))), (5, .int (nI 7))], [.int (nI (m)), .int (nI 7), .ref 27])) (h' := (Wd C e P Q m N R t Z)) (fun _ _ => rfl) ?_
          refine eR.nmul rfl ?_
          refine eR.step 1 (F' := (145, [(0, .ref 23), (1, .int (nI 0)), (2, .int (nI (P.2))), (3, .int (nI (k))), (4, .int (nI (c))), (5, .int (nI 7))], [.int (nI (c)), .int (nI (7 * m)), .ref 27])) (h' := (Wd C e P Q m N R t Z)) (fun _ _ => rfl) ?_
          refine eR.nadd rfl ?_
          refine eR.step 3 (F' := (149, [(0, .ref 23), (1, .int (nI 0)), (2, .int (nI (P.2))), (3, .int (nI (k))), (4, .int (nI (c))), (5, .int (nI 7))], [.int (nI (k)), .int (nI 0), .ref 23, .int (nI ((7 * m) + c)), .ref 27])) (h' := (Wd C e P Q m N R t Z)) (fun _ _ => rfl) ?_
          refine eR.call (k' := 125) (as := [.ref 23, .int (nI 0), .int (nI (k))]) (rest := [.int (nI ((7 * m) + c)), .ref 27]) (v := some (.int (nI (P.1 k)))) (h1 := (Wd C e P Q m N R t Z)) rfl rfl rfl rfl (eg (Nat.le_of_ble_eq_true rfl) (show 22 ≤ lo by omega) (Nat.le_of_ble_eq_true rfl)) (m_char0 hl (by omega)) ?_
          refine eR.st27 rfl (by omega) ?_
          refine eR.step 1 (F' := (156, [(0, .ref 23), (1, .int (nI 0)), (2, .int (nI (P.2))), (3, .int (nI (k))), (4, .int (nI (c) + 1)), (5, .int (nI 7))], [])) (h' := (Wd C e P Q m (ut N ((7 * m) + c) (P.1 k)) R t Z)) (fun _ _ => rfl) ?_
          rw [show nI (c) + 1 = nI (c + 1) from nI_add (c) 1]
          refine eR.step 1 (F' := (159, [(0, .ref 23), (1, .int (nI 0)), (2, .int (nI (P.2))), (3, .int (nI (k) + 1)), (4, .int (nI (c + 1))), (5, .int (nI 7))], [])) (h' := (Wd C e P Q m (ut N ((7 * m) + c) (P.1 k)) R t Z)) (fun _ _ => rfl) ?_
          rw [show nI (k) + 1 = nI (k + 1) from nI_add (k) 1]
          refine eR.step 1 (F' := (101, [(0, .ref 23), (1, .int (nI 0)), (2, .int (nI (P.2))), (3, .int (nI (k + 1))), (4, .int (nI (c + 1))), (5, .int (nI 7))], [])) (h' := (Wd C e P Q m (ut N ((7 * m) + c) (P.1 k)) R t Z)) (fun _ _ => rfl) ?_
          exact l_parse0 hlo ht hl n (k + 1) (c + 1) m _ (by omega) (by omega) (by omega)
      · rw [if_neg (show ¬ (97 ≤ P.1 k ∧ P.1 k ≤ 122) from fun z => b z.2)]
        refine eR.icmp rfl true ((nc_gt (by omega) (by omega)).trans (decide_eq_true (by omega))) ?_
        refine eR.step 1 (F' := (164, [(0, .ref 23), (1, .int (nI 0)), (2, .int (nI (P.2))), (3, .int (nI (k))), (4, .int (nI (c))), (5, .int (nI 7))], [.int (nI (c))])) (h' := (Wd C e P Q m N R t Z)) (fun _ _ => rfl) ?_
        by_cases h : c = 0
        · rw [if_pos h]
          refine eR.ifc rfl false ((nc_ne (b := 0) (by omega) (by decide)).trans (decide_eq_false (by omega))) ?_
          refine eR.step 1 (F' := (168, [(0, .ref 23), (1, .int (nI 0)), (2, .int (nI (P.2))), (3, .int (nI (k))), (4, .int (nI (c))), (5, .int (nI 7))], [.int (nI 0)])) (h' := (Wd C e P Q m N R t Z)) (fun _ _ => rfl) ?_
          exact eR.ret rfl rfl rfl
        · rw [if_neg h]
          refine eR.ifc rfl true ((nc_ne (b := 0) (by omega) (by decide)).trans (decide_eq_true (by omega))) ?_
          refine eR.step 4 (F' := (175, [(0, .ref 23), (1, .int (nI 0)), (2, .int (nI (P.2))), (3, .int (nI (k))), (4, .int (nI (c))), (5, .int (nI 7))], [.int (nI 1), .int (nI (m)), .ref 23])) (h' := (Wd C e P Q m N R t Z)) (fun _ _ => rfl) ?_
          refine eR.nadd rfl ?_
          refine eR.sim rfl (F := (179, [(0, .ref 23), (1, .int (nI 0)), (2, .int (nI (P.2))), (3, .int (nI (k))), (4, .int (nI (c))), (5, .int (nI 7))], [])) (h' := (Wd C e P Q (m + 1) N R t Z)) (by rfl) ?_
          refine eR.step 3 (F' := (47, [(0, .ref 23), (1, .int (nI 0)), (2, .int (nI (P.2))), (3, .int (nI (k))), (4, .int (nI (c))), (5, .int (nI 7))], [.int (nI (P.2)), .int (nI (k))])) (h' := (Wd C e P Q (m + 1) N R t Z)) (fun _ _ => rfl) ?_
          refine eR.icmp rfl false ((nc_ge (by omega) (by omega)).trans (decide_eq_false (by omega))) ?_
          refine eR.step 3 (F' := (53, [(0, .ref 23), (1, .int (nI 0)), (2, .int (nI (P.2))), (3, .int (nI (k))), (4, .int (nI (c))), (5, .int (nI 7))], [.int (nI (k)), .int (nI 0), .ref 23])) (h' := (Wd C e P Q (m + 1) N R t Z)) (fun _ _ => rfl) ?_
          refine eR.call (k' := 125) (as := [.ref 23, .int (nI 0), .int (nI (k))]) (rest := []) (v := some (.int (nI (P.1 k)))) (h1 := (Wd C e P Q (m + 1) N R t Z)) rfl rfl rfl rfl (eg (Nat.le_of_ble_eq_true rfl) (show 22 ≤ lo by omega) (Nat.le_of_ble_eq_true rfl)) (m_char0 hl (by omega)) ?_
          refine eR.step 1 (F' := (58, [(0, .ref 23), (1, .int (nI 0)), (2, .int (nI (P.2))), (3, .int (nI (k))), (4, .int (nI (c))), (5, .int (nI 7))], [.int (nI 47), .int (nI (P.1 k))])) (h' := (Wd C e P Q (m + 1) N R t Z)) (fun _ _ => rfl) ?_
          by_cases h47 : P.1 k = 47
          · rw [if_pos h47]
            refine eR.icmp rfl true ((nc_eq (by omega) (by omega)).trans (decide_eq_true (by omega))) ?_
            refine eR.step 1 (F' := (66, [(0, .ref 23), (1, .int (nI 0)), (2, .int (nI (P.2))), (3, .int (nI (k) + 1)), (4, .int (nI (c))), (5, .int (nI 7))], [])) (h' := (Wd C e P Q (m + 1) N R t Z)) (fun _ _ => rfl) ?_
            rw [show nI (k) + 1 = nI (k + 1) from nI_add (k) 1]
            refine eR.step 4 (F' := (72, [(0, .ref 23), (1, .int (nI 0)), (2, .int (nI (P.2))), (3, .int (nI (k + 1))), (4, .int (nI 0)), (5, .int (nI 0))], [])) (h' := (Wd C e P Q (m + 1) N R t Z)) (fun _ _ => rfl) ?_
            refine l_pz0 (by omega) 7 0 N (by omega) ?_
            rw [Nat.add_zero]
            exact l_parse0 hlo ht hl n (k + 1) 0 (m + 1) _ (by omega) (by omega) (by omega)
          · rw [if_neg h47]
            refine eR.icmp rfl false ((nc_eq (by omega) (by omega)).trans (decide_eq_false (by omega))) ?_
            refine eR.step 1 (F' := (62, [(0, .ref 23), (1, .int (nI 0)), (2, .int (nI (P.2))), (3, .int (nI (k))), (4, .int (nI (c))), (5, .int (nI 7))], [.int (nI 0)])) (h' := (Wd C e P Q (m + 1) N R t Z)) (fun _ _ => rfl) ?_
            exact eR.ret rfl rfl rfl
    · rw [if_neg (show ¬ (97 ≤ P.1 k ∧ P.1 k ≤ 122) from fun z => a z.1)]
      refine eR.icmp rfl true ((nc_lt (by omega) (by omega)).trans (decide_eq_true (by omega))) ?_
      refine eR.step 1 (F' := (164, [(0, .ref 23), (1, .int (nI 0)), (2, .int (nI (P.2))), (3, .int (nI (k))), (4, .int (nI (c))), (5, .int (nI 7))], [.int (nI (c))])) (h' := (Wd C e P Q m N R t Z)) (fun _ _ => rfl) ?_
      by_cases h : c = 0
      · rw [if_pos h]
        refine eR.ifc rfl false ((nc_ne (b := 0) (by omega) (by decide)).trans (decide_eq_false (by omega))) ?_
        refine eR.step 1 (F' := (168, [(0, .ref 23), (1, .int (nI 0)), (2, .int (nI (P.2))), (3, .int (nI (k))), (4, .int (nI (c))), (5, .int (nI 7))], [.int (nI 0)])) (h' := (Wd C e P Q m N R t Z)) (fun _ _ => rfl) ?_
        exact eR.ret rfl rfl rfl
      · rw [if_neg h]
        refine eR.ifc rfl true ((nc_ne (b := 0) (by omega) (by decide)).trans (decide_eq_true (by omega))) ?_
        refine eR.step 4 (F' := (175, [(0, .ref 23), (1, .int (nI 0)), (2, .int (nI (P.2))), (3, .int (nI (k))), (4, .int (nI (c))), (5, .int (nI 7))], [.int (nI 1), .int (nI (m)), .ref 23])) (h' := (Wd C e P Q m N R t Z)) (fun _ _ => rfl) ?_
        refine eR.nadd rfl ?_
        refine eR.sim rfl (F := (179, [(0, .ref 23), (1, .int (nI 0)), (2, .int (nI (P.2))), (3, .int (nI (k))), (4, .int (nI (c))), (5, .int (nI 7))], [])) (h' := (Wd C e P Q (m + 1) N R t Z)) (by rfl) ?_
        refine eR.step 3 (F' := (47, [(0, .ref 23), (1, .int (nI 0)), (2, .int (nI (P.2))), (3, .int (nI (k))), (4, .int (nI (c))), (5, .int (nI 7))], [.int (nI (P.2)), .int (nI (k))])) (h' := (Wd C e P Q (m + 1) N R t Z)) (fun _ _ => rfl) ?_
        refine eR.icmp rfl false ((nc_ge (by omega) (by omega)).trans (decide_eq_false (by omega))) ?_
        refine eR.step 3 (F' := (53, [(0, .ref 23), (1, .int (nI 0)), (2, .int (nI (P.2))), (3, .int (nI (k))), (4, .int (nI (c))), (5, .int (nI 7))], [.int (nI (k)), .int (nI 0), .ref 23])) (h' := (Wd C e P Q (m + 1) N R t Z)) (fun _ _ => rfl) ?_
        refine eR.call (k' := 125) (as := [.ref 23, .int (nI 0), .int (nI (k))]) (rest := []) (v := some (.int (nI (P.1 k)))) (h1 := (Wd C e P Q (m + 1) N R t Z)) rfl rfl rfl rfl (eg (Nat.le_of_ble_eq_true rfl) (show 22 ≤ lo by omega) (Nat.le_of_ble_eq_true rfl)) (m_char0 hl (by omega)) ?_
        refine eR.step 1 (F' := (58, [(0, .ref 23), (1, .int (nI 0)), (2, .int (nI (P.2))), (3, .int (nI (k))), (4, .int (nI (c))), (5, .int (nI 7))], [.int (nI 47), .int (nI (P.1 k))])) (h' := (Wd C e P Q (m + 1) N R t Z)) (fun _ _ => rfl) ?_
        by_cases h47 : P.1 k = 47
        · rw [if_pos h47]
          refine eR.icmp rfl true ((nc_eq (by omega) (by omega)).trans (decide_eq_true (by omega))) ?_
          refine eR.step 1 (F' := (66, [(0, .ref 23), (1, .int (nI 0)), (2, .int (nI (P.2))), (3, .int (nI (k) + 1)), (4, .int (nI (c))), (5, .int (nI 7))], [])) (h' := (Wd C e P Q (m + 1) N R t Z)) (fun _ _ => rfl) ?_
          rw [show nI (k) + 1 = nI (k + 1) from nI_add (k) 1]
          refine eR.step 4 (F' := (72, [(0, .ref 23), (1, .int (nI 0)), (2, .int (nI (P.2))), (3, .int (nI (k + 1))), (4, .int (nI 0)), (5, .int (nI 0))], [])) (h' := (Wd C e P Q (m + 1) N R t Z)) (fun _ _ => rfl) ?_
          refine l_pz0 (by omega) 7 0 N (by omega) ?_
          rw [Nat.add_zero]
          exact l_parse0 hlo ht hl n (k + 1) 0 (m + 1) _ (by omega) (by omega) (by omega)
        · rw [if_neg h47]
          refine eR.icmp rfl false ((nc_eq (by omega) (by omega)).trans (decide_eq_false (by omega))) ?_
          refine eR.step 1 (F' := (62, [(0, .ref 23), (1, .int (nI 0)), (2, .int (nI (P.2))), (3, .int (nI (k))), (4, .int (nI (c))), (5, .int (nI 7))], [.int (nI 0)])) (h' := (Wd C e P Q (m + 1) N R t Z)) (fun _ _ => rfl) ?_
          exact eR.ret rfl rfl rfl
theorem m_parse0 {cm sm fr lo : Nat} {C : gC} {e : Nat → Nat} {P Q : gT} {m : Nat} {N : Nat → Nat} {R : gS} {t : Nat} {Z : mj_H} (hlo : 22 ≤ lo) (ht : ∀ k, P.1 k < 65536) (hl : P.2 ≤ 40) : eE mm_P cm sm (fr + 2) lo 124 [.ref 23, .int (nI 0)] (Wd C e P Q m N R t Z) (.inl (some (.int (nI (bi (pP P.1 P.2 N).1)))), (Wd C e P Q (pP P.1 P.2 N).2.1 (pP P.1 P.2 N).2.2 R t Z)) := by
  refine eE.of ?_
  refine eR.step 1 (F' := (1, [(0, .ref 23), (1, .int (nI 0))], [.int (nI 0)])) (h' := (Wd C e P Q m N R t Z)) (fun _ _ => rfl) ?_
  refine eR.ifc rfl true rfl ?_
  refine eR.step 5 (F' := (18, [(0, .ref 23), (1, .int (nI 0)), (2, .int (nI (P.2)))], [.int (nI 0), .ref 23])) (h' := (Wd C e P Q m N R t Z)) (fun _ _ => rfl) ?_
  refine eR.sim rfl (F := (21, [(0, .ref 23), (1, .int (nI 0)), (2, .int (nI (P.2)))], [])) (h' := (Wd C e P Q 0 N R t Z)) (by rfl) ?_
  refine eR.step 2 (F' := (23, [(0, .ref 23), (1, .int (nI 0)), (2, .int (nI (P.2)))], [.int (nI 1), .int (nI (P.2))])) (h' := (Wd C e P Q 0 N R t Z)) (fun _ _ => rfl) ?_
  unfold pP
  by_cases h1 : P.2 = 1
  · rw [if_pos h1]
    refine eR.icmp rfl false ((nc_ne (by omega) (by omega)).trans (decide_eq_false (by omega))) ?_
    refine eR.step 3 (F' := (29, [(0, .ref 23), (1, .int (nI 0)), (2, .int (nI (P.2)))], [.int (nI 0), .int (nI 0), .ref 23])) (h' := (Wd C e P Q 0 N R t Z)) (fun _ _ => rfl) ?_
    refine eR.call (k' := 125) (as := [.ref 23, .int (nI 0), .int (nI 0)]) (rest := []) (v := some (.int (nI (P.1 0)))) (h1 := (Wd C e P Q 0 N R t Z)) rfl rfl rfl rfl (eg (Nat.le_of_ble_eq_true rfl) (show 22 ≤ lo by omega) (Nat.le_of_ble_eq_true rfl)) (m_char0 hl (by omega)) ?_
    have h7 := ht 0
    refine eR.step 1 (F' := (34, [(0, .ref 23), (1, .int (nI 0)), (2, .int (nI (P.2)))], [.int (nI 47), .int (nI (P.1 0))])) (h' := (Wd C e P Q 0 N R t Z)) (fun _ _ => rfl) ?_
    by_cases h2 : P.1 0 = 47
    · rw [decide_eq_true h2]
      refine eR.icmp rfl false ((nc_ne (by omega) (by omega)).trans (decide_eq_false (by omega))) ?_
      refine eR.step 2 (F' := (42, [(0, .ref 23), (1, .int (nI 0)), (2, .int (nI (P.2)))], [.int (nI 1)])) (h' := (Wd C e P Q 0 N R t Z)) (fun _ _ => rfl) ?_
      exact eR.ret rfl rfl rfl
    · rw [decide_eq_false h2]
      refine eR.icmp rfl true ((nc_ne (by omega) (by omega)).trans (decide_eq_true (by omega))) ?_
      refine eR.step 1 (F' := (42, [(0, .ref 23), (1, .int (nI 0)), (2, .int (nI (P.2)))], [.int (nI 0)])) (h' := (Wd C e P Q 0 N R t Z)) (fun _ _ => rfl) ?_
      exact eR.ret rfl rfl rfl
  · rw [if_neg h1]
    refine eR.icmp rfl true ((nc_ne (by omega) (by omega)).trans (decide_eq_true (by omega))) ?_
    refine eR.step 4 (F' := (47, [(0, .ref 23), (1, .int (nI 0)), (2, .int (nI (P.2))), (3, .int (nI 0))], [.int (nI (P.2)), .int (nI 0)])) (h' := (Wd C e P Q 0 N R t Z)) (fun _ _ => rfl) ?_
    by_cases h0 : P.2 = 0
    · rw [if_pos h0]
      refine eR.icmp rfl true ((nc_ge (by omega) (by omega)).trans (decide_eq_true (by omega))) ?_
      refine eR.step 1 (F' := (183, [(0, .ref 23), (1, .int (nI 0)), (2, .int (nI (P.2))), (3, .int (nI 0))], [.int (nI (P.2))])) (h' := (Wd C e P Q 0 N R t Z)) (fun _ _ => rfl) ?_
      refine eR.ifc rfl true ((nc_le (b := 0) (by omega) (by decide)).trans (decide_eq_true (by omega))) ?_
      refine eR.step 1 (F' := (191, [(0, .ref 23), (1, .int (nI 0)), (2, .int (nI (P.2))), (3, .int (nI 0))], [.int (nI 0)])) (h' := (Wd C e P Q 0 N R t Z)) (fun _ _ => rfl) ?_
      exact eR.ret rfl rfl rfl
    · rw [if_neg h0]
      refine eR.icmp rfl false ((nc_ge (by omega) (by omega)).trans (decide_eq_false (by omega))) ?_
      refine eR.step 3 (F' := (53, [(0, .ref 23), (1, .int (nI 0)), (2, .int (nI (P.2))), (3, .int (nI 0))], [.int (nI 0), .int (nI 0), .ref 23])) (h' := (Wd C e P Q 0 N R t Z)) (fun _ _ => rfl) ?_
      refine eR.call (k' := 125) (as := [.ref 23, .int (nI 0), .int (nI 0)]) (rest := []) (v := some (.int (nI (P.1 0)))) (h1 := (Wd C e P Q 0 N R t Z)) rfl rfl rfl rfl (eg (Nat.le_of_ble_eq_true rfl) (show 22 ≤ lo by omega) (Nat.le_of_ble_eq_true rfl)) (m_char0 hl (by omega)) ?_
      have h7 := ht 0
      refine eR.step 1 (F' := (58, [(0, .ref 23), (1, .int (nI 0)), (2, .int (nI (P.2))), (3, .int (nI 0))], [.int (nI 47), .int (nI (P.1 0))])) (h' := (Wd C e P Q 0 N R t Z)) (fun _ _ => rfl) ?_
      by_cases h2 : P.1 0 = 47
      · rw [if_pos h2]
        refine eR.icmp rfl true ((nc_eq (by omega) (by omega)).trans (decide_eq_true (by omega))) ?_
        refine eR.step 1 (F' := (66, [(0, .ref 23), (1, .int (nI 0)), (2, .int (nI (P.2))), (3, .int (nI (0) + 1))], [])) (h' := (Wd C e P Q 0 N R t Z)) (fun _ _ => rfl) ?_
        rw [show nI (0) + 1 = nI (0 + 1) from nI_add (0) 1]
        refine eR.step 4 (F' := (72, [(0, .ref 23), (1, .int (nI 0)), (2, .int (nI (P.2))), (3, .int (nI (0 + 1))), (4, .int (nI 0)), (5, .int (nI 0))], [])) (h' := (Wd C e P Q 0 N R t Z)) (fun _ _ => rfl) ?_
        refine l_pz0 (by omega) 7 0 N (by omega) ?_
        exact l_parse0 hlo ht hl (P.2 - 1) 1 0 0 _ (by omega) (by omega) (by omega)
      · rw [if_neg h2]
        refine eR.icmp rfl false ((nc_eq (by omega) (by omega)).trans (decide_eq_false (by omega))) ?_
        refine eR.step 1 (F' := (62, [(0, .ref 23), (1, .int (nI 0)), (2, .int (nI (P.2))), (3, .int (nI 0))], [.int (nI 0)])) (h' := (Wd C e P Q 0 N R t Z)) (fun _ _ => rfl) ?_
        exact eR.ret rfl rfl rfl
theorem l_pz1 {cm sm fr lo : Nat} {C : gC} {e : Nat → Nat} {P Q : gT} {m : Nat} {R : gS} {t : Nat} {Z : mj_H} {k c : Nat} (hm : m < 20) {r : mj_O × mj_H} : ∀ (q j : Nat) (N : Nat → Nat), j + q = 7 → eR mm_P cm sm fr lo 124 (101, [(0, .ref 23), (1, .int (nI 1)), (2, .int (nI (Q.2))), (3, .int (nI (k))), (4, .int (nI (c))), (5, .int (nI 7))], []) (Wd C e P Q m (cz N (7 * m + j) q) R t Z) r → eR mm_P cm sm fr lo 124 (72, [(0, .ref 23), (1, .int (nI 1)), (2, .int (nI (Q.2))), (3, .int (nI (k))), (4, .int (nI (c))), (5, .int (nI (j)))], []) (Wd C e P Q m N R t Z) r
  | 0, j, N, h1, w => by
    have e0 : j = 7 := by omega
    subst e0
    rw [cz_0] at w
    refine eR.step 2 (F' := (76, [(0, .ref 23), (1, .int (nI 1)), (2, .int (nI (Q.2))), (3, .int (nI (k))), (4, .int (nI (c))), (5, .int (nI 7))], [.int (nI 7), .int (nI 7)])) (h' := (Wd C e P Q m N R t Z)) (fun _ _ => rfl) ?_
    refine eR.icmp rfl true ((nc_ge (by omega) (by omega)).trans (decide_eq_true (by omega))) ?_
    exact w
  | q + 1, j, N, h1, w => by
    refine eR.step 2 (F' := (76, [(0, .ref 23), (1, .int (nI 1)), (2, .int (nI (Q.2))), (3, .int (nI (k))), (4, .int (nI (c))), (5, .int (nI (j)))], [.int (nI 7), .int (nI (j))])) (h' := (Wd C e P Q m N R t Z)) (fun _ _ => rfl) ?_
    refine eR.icmp rfl false ((nc_ge (by omega) (by omega)).trans (decide_eq_false (by omega))) ?_
    refine eR.step 5 (F' := (89, [(0, .ref 23), (1, .int (nI 1)), (2, .int (nI (Q.2))), (3, .int (nI (k))), (4, .int (nI (c))), (5, .int (nI (j)))], [.int (nI (m)), .int (nI 7), .ref 27])) (h' := (Wd C e P Q m N R t Z)) (fun _ _ => rfl) ?_
    refine eR.nmul rfl ?_
    refine eR.step 1 (F' := (92, [(0, .ref 23), (1, .int (nI 1)), (2, .int (nI (Q.2))), (3, .int (nI (k))), (4, .int (nI (c))), (5, .int (nI (j)))], [.int (nI (j)), .int (nI (7 * m)), .ref 27])) (h' := (Wd C e P Q m N R t Z)) (fun _ _ => rfl) ?_
    refine eR.nadd rfl ?_
    refine eR.step 1 (F' := (94, [(0, .ref 23), (1, .int (nI 1)), (2, .int (nI (Q.2))), (3, .int (nI (k))), (4, .int (nI (c))), (5, .int (nI (j)))], [.int (nI 0), .int (nI ((7 * m) + j)), .ref 27])) (h' := (Wd C e P Q m N R t Z)) (fun _ _ => rfl) ?_
    refine eR.st27 rfl (by omega) ?_
    refine eR.step 1 (F' := (98, [(0, .ref 23), (1, .int (nI 1)), (2, .int (nI (Q.2))), (3, .int (nI (k))), (4, .int (nI (c))), (5, .int (nI (j) + 1))], [])) (h' := (Wd C e P Q m (ut N ((7 * m) + j) (0)) R t Z)) (fun _ _ => rfl) ?_
    rw [show nI (j) + 1 = nI (j + 1) from nI_add (j) 1]
    refine eR.step 1 (F' := (72, [(0, .ref 23), (1, .int (nI 1)), (2, .int (nI (Q.2))), (3, .int (nI (k))), (4, .int (nI (c))), (5, .int (nI (j + 1)))], [])) (h' := (Wd C e P Q m (ut N ((7 * m) + j) (0)) R t Z)) (fun _ _ => rfl) ?_
    refine l_pz1 hm q (j + 1) _ (by omega) ?_
    rw [show cz (ut N (7 * m + j) 0) (7 * m + (j + 1)) q = cz N (7 * m + j) (q + 1) from cz_ut ..]
    exact w
theorem l_parse1 {cm sm fr lo : Nat} {C : gC} {e : Nat → Nat} {P Q : gT} {R : gS} {t : Nat} {Z : mj_H} (hlo : 22 ≤ lo) (ht : ∀ k, Q.1 k < 65536) (hl : Q.2 ≤ 40) : ∀ (n k c m : Nat) (N : Nat → Nat), k + n = Q.2 → c ≤ 7 → 2 * m + 1 + c ≤ k → eR mm_P cm sm (fr + 1) lo 124 (101, [(0, .ref 23), (1, .int (nI 1)), (2, .int (nI (Q.2))), (3, .int (nI (k))), (4, .int (nI (c))), (5, .int (nI 7))], []) (Wd C e P Q m N R t Z) (.inl (some (.int (nI (bi (pI Q.1 n k c m N).1)))), (Wd C e P Q (pI Q.1 n k c m N).2.1 (pI Q.1 n k c m N).2.2 R t Z))
  | 0, k, c, m, N, h1, h2, h3 => by
    refine eR.step 3 (F' := (104, [(0, .ref 23), (1, .int (nI 1)), (2, .int (nI (Q.2))), (3, .int (nI (k))), (4, .int (nI (c))), (5, .int (nI 7))], [.int (nI (k)), .int (nI 1), .ref 23])) (h' := (Wd C e P Q m N R t Z)) (fun _ _ => rfl) ?_
    refine eR.call (k' := 125) (as := [.ref 23, .int (nI 1), .int (nI (k))]) (rest := []) (v := some (.int (-1))) (h1 := (Wd C e P Q m N R t Z)) rfl rfl rfl rfl (eg (Nat.le_of_ble_eq_true rfl) (show 22 ≤ lo by omega) (Nat.le_of_ble_eq_true rfl)) (m_charE1 hl (by omega) (by omega)) ?_
    refine eR.step 1 (F' := (109, [(0, .ref 23), (1, .int (nI 1)), (2, .int (nI (Q.2))), (3, .int (nI (k))), (4, .int (nI (c))), (5, .int (nI 7))], [.int (nI 97), .int (-1)])) (h' := (Wd C e P Q m N R t Z)) (fun _ _ => rfl) ?_
    refine eR.icmp rfl true (mc_m1 (by decide) (by decide)) ?_
    refine eR.step 1 (F' := (164, [(0, .ref 23), (1, .int (nI 1)), (2, .int (nI (Q.2))), (3, .int (nI (k))), (4, .int (nI (c))), (5, .int (nI 7))], [.int (nI (c))])) (h' := (Wd C e P Q m N R t Z)) (fun _ _ => rfl) ?_
    rw [pI]
    by_cases h : c = 0
    · rw [if_pos h]
      refine eR.ifc rfl false ((nc_ne (b := 0) (by omega) (by decide)).trans (decide_eq_false (by omega))) ?_
      refine eR.step 1 (F' := (168, [(0, .ref 23), (1, .int (nI 1)), (2, .int (nI (Q.2))), (3, .int (nI (k))), (4, .int (nI (c))), (5, .int (nI 7))], [.int (nI 0)])) (h' := (Wd C e P Q m N R t Z)) (fun _ _ => rfl) ?_
      exact eR.ret rfl rfl rfl
    · rw [if_neg h]
      refine eR.ifc rfl true ((nc_ne (b := 0) (by omega) (by decide)).trans (decide_eq_true (by omega))) ?_
      refine eR.step 4 (F' := (175, [(0, .ref 23), (1, .int (nI 1)), (2, .int (nI (Q.2))), (3, .int (nI (k))), (4, .int (nI (c))), (5, .int (nI 7))], [.int (nI 1), .int (nI (m)), .ref 23])) (h' := (Wd C e P Q m N R t Z)) (fun _ _ => rfl) ?_
      refine eR.nadd rfl ?_
      refine eR.sim rfl (F := (179, [(0, .ref 23), (1, .int (nI 1)), (2, .int (nI (Q.2))), (3, .int (nI (k))), (4, .int (nI (c))), (5, .int (nI 7))], [])) (h' := (Wd C e P Q (m + 1) N R t Z)) (by rfl) ?_
      refine eR.step 3 (F' := (47, [(0, .ref 23), (1, .int (nI 1)), (2, .int (nI (Q.2))), (3, .int (nI (k))), (4, .int (nI (c))), (5, .int (nI 7))], [.int (nI (Q.2)), .int (nI (k))])) (h' := (Wd C e P Q (m + 1) N R t Z)) (fun _ _ => rfl) ?_
      refine eR.icmp rfl true ((nc_ge (by omega) (by omega)).trans (decide_eq_true (by omega))) ?_
      refine eR.step 1 (F' := (183, [(0, .ref 23), (1, .int (nI 1)), (2, .int (nI (Q.2))), (3, .int (nI (k))), (4, .int (nI (c))), (5, .int (nI 7))], [.int (nI (Q.2))])) (h' := (Wd C e P Q (m + 1) N R t Z)) (fun _ _ => rfl) ?_
      refine eR.ifc rfl false ((nc_le (b := 0) (by omega) (by decide)).trans (decide_eq_false (by omega))) ?_
      refine eR.step 2 (F' := (191, [(0, .ref 23), (1, .int (nI 1)), (2, .int (nI (Q.2))), (3, .int (nI (k))), (4, .int (nI (c))), (5, .int (nI 7))], [.int (nI 1)])) (h' := (Wd C e P Q (m + 1) N R t Z)) (fun _ _ => rfl) ?_
      exact eR.ret rfl rfl rfl
  | n + 1, k, c, m, N, h1, h2, h3 => by
    have h7 := ht k
    refine eR.step 3 (F' := (104, [(0, .ref 23), (1, .int (nI 1)), (2, .int (nI (Q.2))), (3, .int (nI (k))), (4, .int (nI (c))), (5, .int (nI 7))], [.int (nI (k)), .int (nI 1), .ref 23])) (h' := (Wd C e P Q m N R t Z)) (fun _ _ => rfl) ?_
    refine eR.call (k' := 125) (as := [.ref 23, .int (nI 1), .int (nI (k))]) (rest := []) (v := some (.int (nI (Q.1 k)))) (h1 := (Wd C e P Q m N R t Z)) rfl rfl rfl rfl (eg (Nat.le_of_ble_eq_true rfl) (show 22 ≤ lo by omega) (Nat.le_of_ble_eq_true rfl)) (m_char1 hl (by omega)) ?_
    refine eR.step 1 (F' := (109, [(0, .ref 23), (1, .int (nI 1)), (2, .int (nI (Q.2))), (3, .int (nI (k))), (4, .int (nI (c))), (5, .int (nI 7))], [.int (nI 97), .int (nI (Q.1 k))])) (h' := (Wd C e P Q m N R t Z)) (fun _ _ => rfl) ?_
    rw [pI]
    by_cases a : 97 ≤ Q.1 k
    · refine eR.icmp rfl false ((nc_lt (by omega) (by omega)).trans (decide_eq_false (by omega))) ?_
      refine eR.step 3 (F' := (115, [(0, .ref 23), (1, .int (nI 1)), (2, .int (nI (Q.2))), (3, .int (nI (k))), (4, .int (nI (c))), (5, .int (nI 7))], [.int (nI (k)), .int (nI 1), .ref 23])) (h' := (Wd C e P Q m N R t Z)) (fun _ _ => rfl) ?_
      refine eR.call (k' := 125) (as := [.ref 23, .int (nI 1), .int (nI (k))]) (rest := []) (v := some (.int (nI (Q.1 k)))) (h1 := (Wd C e P Q m N R t Z)) rfl rfl rfl rfl (eg (Nat.le_of_ble_eq_true rfl) (show 22 ≤ lo by omega) (Nat.le_of_ble_eq_true rfl)) (m_char1 hl (by omega)) ?_
      refine eR.step 1 (F' := (120, [(0, .ref 23), (1, .int (nI 1)), (2, .int (nI (Q.2))), (3, .int (nI (k))), (4, .int (nI (c))), (5, .int (nI 7))], [.int (nI 122), .int (nI (Q.1 k))])) (h' := (Wd C e P Q m N R t Z)) (fun _ _ => rfl) ?_
      by_cases b : Q.1 k ≤ 122
      · rw [if_pos ⟨a, b⟩]
        refine eR.icmp rfl false ((nc_gt (by omega) (by omega)).trans (decide_eq_false (by omega))) ?_
        refine eR.step 2 (F' := (127, [(0, .ref 23), (1, .int (nI 1)), (2, .int (nI (Q.2))), (3, .int (nI (k))), (4, .int (nI (c))), (5, .int (nI 7))], [.int (nI 7), .int (nI (c))])) (h' := (Wd C e P Q m N R t Z)) (fun _ _ => rfl) ?_
        by_cases c7 : c = 7
        · rw [if_pos c7]
          refine eR.icmp rfl false ((nc_ne (by omega) (by omega)).trans (decide_eq_false (by omega))) ?_
          refine eR.step 1 (F' := (131, [(0, .ref 23), (1, .int (nI 1)), (2, .int (nI (Q.2))), (3, .int (nI (k))), (4, .int (nI (c))), (5, .int (nI 7))], [.int (nI 0)])) (h' := (Wd C e P Q m N R t Z)) (fun _ _ => rfl) ?_
          exact eR.ret rfl rfl rfl
        · rw [if_neg c7]
          refine eR.icmp rfl true ((nc_ne (by omega) (by omega)).trans (decide_eq_true (by omega))) ?_
          refine eR.step 5 (F' := (142, [(0, .ref 23), (1, .int (nI 1)), (2, .int (nI (Q.2))), (3, .int (nI (k))), (4, .int (nI (c))), (5, .int (nI 7))], [.int (nI (m)), .int (nI 7), .ref 27])) (h' := (Wd C e P Q m N R t Z)) (fun _ _ => rfl) ?_
          refine eR.nmul rfl ?_
          refine eR.step 1 (F' := (145, [(0, .ref 23), (1, .int (nI 1)), (2, .int (nI (Q.2))), (3, .int (nI (k))), (4, .int (nI (c))), (5, .int (nI 7))], [.int (nI (c)), .int (nI (7 * m)), .ref 27])) (h' := (Wd C e P Q m N R t Z)) (fun _ _ => rfl) ?_
          refine eR.nadd rfl ?_
          refine eR.step 3 (F' := (149, [(0, .ref 23), (1, .int (nI 1)), (2, .int (nI (Q.2))), (3, .int (nI (k))), (4, .int (nI (c))), (5, .int (nI 7))], [.int (nI (k)), .int (nI 1), .ref 23, .int (nI ((7 * m) + c)), .ref 27])) (h' := (Wd C e P Q m N R t Z)) (fun _ _ => rfl) ?_
          refine eR.call (k' := 125) (as := [.ref 23, .int (nI 1), .int (nI (k))]) (rest := [.int (nI ((7 * m) + c)), .ref 27]) (v := some (.int (nI (Q.1 k)))) (h1 := (Wd C e P Q m N R t Z)) rfl rfl rfl rfl (eg (Nat.le_of_ble_eq_true rfl) (show 22 ≤ lo by omega) (Nat.le_of_ble_eq_true rfl)) (m_char1 hl (by omega)) ?_
          refine eR.st27 rfl (by omega) ?_
          refine eR.step 1 (F' := (156, [(0, .ref 23), (1, .int (nI 1)), (2, .int (nI (Q.2))), (3, .int (nI (k))), (4, .int (nI (c) + 1)), (5, .int (nI 7))], [])) (h' := (Wd C e P Q m (ut N ((7 * m) + c) (Q.1 k)) R t Z)) (fun _ _ => rfl) ?_
          rw [show nI (c) + 1 = nI (c + 1) from nI_add (c) 1]
          refine eR.step 1 (F' := (159, [(0, .ref 23), (1, .int (nI 1)), (2, .int (nI (Q.2))), (3, .int (nI (k) + 1)), (4, .int (nI (c + 1))), (5, .int (nI 7))], [])) (h' := (Wd C e P Q m (ut N ((7 * m) + c) (Q.1 k)) R t Z)) (fun _ _ => rfl) ?_
          rw [show nI (k) + 1 = nI (k + 1) from nI_add (k) 1]
          refine eR.step 1 (F' := (101, [(0, .ref 23), (1, .int (nI 1)), (2, .int (nI (Q.2))), (3, .int (nI (k + 1))), (4, .int (nI (c + 1))), (5, .int (nI 7))], [])) (h' := (Wd C e P Q m (ut N ((7 * m) + c) (Q.1 k)) R t Z)) (fun _ _ => rfl) ?_
          exact l_parse1 hlo ht hl n (k + 1) (c + 1) m _ (by omega) (by omega) (by omega)
      · rw [if_neg (show ¬ (97 ≤ Q.1 k ∧ Q.1 k ≤ 122) from fun z => b z.2)]
        refine eR.icmp rfl true ((nc_gt (by omega) (by omega)).trans (decide_eq_true (by omega))) ?_
        refine eR.step 1 (F' := (164, [(0, .ref 23), (1, .int (nI 1)), (2, .int (nI (Q.2))), (3, .int (nI (k))), (4, .int (nI (c))), (5, .int (nI 7))], [.int (nI (c))])) (h' := (Wd C e P Q m N R t Z)) (fun _ _ => rfl) ?_
        by_cases h : c = 0
        · rw [if_pos h]
          refine eR.ifc rfl false ((nc_ne (b := 0) (by omega) (by decide)).trans (decide_eq_false (by omega))) ?_
          refine eR.step 1 (F' := (168, [(0, .ref 23), (1, .int (nI 1)), (2, .int (nI (Q.2))), (3, .int (nI (k))), (4, .int (nI (c))), (5, .int (nI 7))], [.int (nI 0)])) (h' := (Wd C e P Q m N R t Z)) (fun _ _ => rfl) ?_
          exact eR.ret rfl rfl rfl
        · rw [if_neg h]
          refine eR.ifc rfl true ((nc_ne (b := 0) (by omega) (by decide)).trans (decide_eq_true (by omega))) ?_
          refine eR.step 4 (F' := (175, [(0, .ref 23), (1, .int (nI 1)), (2, .int (nI (Q.2))), (3, .int (nI (k))), (4, .int (nI (c))), (5, .int (nI 7))], [.int (nI 1), .int (nI (m)), .ref 23])) (h' := (Wd C e P Q m N R t Z)) (fun _ _ => rfl) ?_
          refine eR.nadd rfl ?_
          refine eR.sim rfl (F := (179, [(0, .ref 23), (1, .int (nI 1)), (2, .int (nI (Q.2))), (3, .int (nI (k))), (4, .int (nI (c))), (5, .int (nI 7))], [])) (h' := (Wd C e P Q (m + 1) N R t Z)) (by rfl) ?_
          refine eR.step 3 (F' := (47, [(0, .ref 23), (1, .int (nI 1)), (2, .int (nI (Q.2))), (3, .int (nI (k))), (4, .int (nI (c))), (5, .int (nI 7))], [.int (nI (Q.2)), .int (nI (k))])) (h' := (Wd C e P Q (m + 1) N R t Z)) (fun _ _ => rfl) ?_
          refine eR.icmp rfl false ((nc_ge (by omega) (by omega)).trans (decide_eq_false (by omega))) ?_
          refine eR.step 3 (F' := (53, [(0, .ref 23), (1, .int (nI 1)), (2, .int (nI (Q.2))), (3, .int (nI (k))), (4, .int (nI (c))), (5, .int (nI 7))], [.int (nI (k)), .int (nI 1), .ref 23])) (h' := (Wd C e P Q (m + 1) N R t Z)) (fun _ _ => rfl) ?_
          refine eR.call (k' := 125) (as := [.ref 23, .int (nI 1), .int (nI (k))]) (rest := []) (v := some (.int (nI (Q.1 k)))) (h1 := (Wd C e P Q (m + 1) N R t Z)) rfl rfl rfl rfl (eg (Nat.le_of_ble_eq_true rfl) (show 22 ≤ lo by omega) (Nat.le_of_ble_eq_true rfl)) (m_char1 hl (by omega)) ?_
          refine eR.step 1 (F' := (58, [(0, .ref 23), (1, .int (nI 1)), (2, .int (nI (Q.2))), (3, .int (nI (k))), (4, .int (nI (c))), (5, .int (nI 7))], [.int (nI 47), .int (nI (Q.1 k))])) (h' := (Wd C e P Q (m + 1) N R t Z)) (fun _ _ => rfl) ?_
          by_cases h47 : Q.1 k = 47
          · rw [if_pos h47]
            refine eR.icmp rfl true ((nc_eq (by omega) (by omega)).trans (decide_eq_true (by omega))) ?_
            refine eR.step 1 (F' := (66, [(0, .ref 23), (1, .int (nI 1)), (2, .int (nI (Q.2))), (3, .int (nI (k) + 1)), (4, .int (nI (c))), (5, .int (nI 7))], [])) (h' := (Wd C e P Q (m + 1) N R t Z)) (fun _ _ => rfl) ?_
            rw [show nI (k) + 1 = nI (k + 1) from nI_add (k) 1]
            refine eR.step 4 (F' := (72, [(0, .ref 23), (1, .int (nI 1)), (2, .int (nI (Q.2))), (3, .int (nI (k + 1))), (4, .int (nI 0)), (5, .int (nI 0))], [])) (h' := (Wd C e P Q (m + 1) N R t Z)) (fun _ _ => rfl) ?_
            refine l_pz1 (by omega) 7 0 N (by omega) ?_
            rw [Nat.add_zero]
            exact l_parse1 hlo ht hl n (k + 1) 0 (m + 1) _ (by omega) (by omega) (by omega)
          · rw [if_neg h47]
            refine eR.icmp rfl false ((nc_eq (by omega) (by omega)).trans (decide_eq_false (by omega))) ?_
            refine eR.step 1 (F' := (62, [(0, .ref 23), (1, .int (nI 1)), (2, .int (nI (Q.2))), (3, .int (nI (k))), (4, .int (nI (c))), (5, .int (nI 7))], [.int (nI 0)])) (h' := (Wd C e P Q (m + 1) N R t Z)) (fun _ _ => rfl) ?_
            exact eR.ret rfl rfl rfl
    · rw [if_neg (show ¬ (97 ≤ Q.1 k ∧ Q.1 k ≤ 122) from fun z => a z.1)]
      refine eR.icmp rfl true ((nc_lt (by omega) (by omega)).trans (decide_eq_true (by omega))) ?_
      refine eR.step 1 (F' := (164, [(0, .ref 23), (1, .int (nI 1)), (2, .int (nI (Q.2))), (3, .int (nI (k))), (4, .int (nI (c))), (5, .int (nI 7))], [.int (nI (c))])) (h' := (Wd C e P Q m N R t Z)) (fun _ _ => rfl) ?_
      by_cases h : c = 0
      · rw [if_pos h]
        refine eR.ifc rfl false ((nc_ne (b := 0) (by omega) (by decide)).trans (decide_eq_false (by omega))) ?_
        refine eR.step 1 (F' := (168, [(0, .ref 23), (1, .int (nI 1)), (2, .int (nI (Q.2))), (3, .int (nI (k))), (4, .int (nI (c))), (5, .int (nI 7))], [.int (nI 0)])) (h' := (Wd C e P Q m N R t Z)) (fun _ _ => rfl) ?_
        exact eR.ret rfl rfl rfl
      · rw [if_neg h]
        refine eR.ifc rfl true ((nc_ne (b := 0) (by omega) (by decide)).trans (decide_eq_true (by omega))) ?_
        refine eR.step 4 (F' := (175, [(0, .ref 23), (1, .int (nI 1)), (2, .int (nI (Q.2))), (3, .int (nI (k))), (4, .int (nI (c))), (5, .int (nI 7))], [.int (nI 1), .int (nI (m)), .ref 23])) (h' := (Wd C e P Q m N R t Z)) (fun _ _ => rfl) ?_
        refine eR.nadd rfl ?_
        refine eR.sim rfl (F := (179, [(0, .ref 23), (1, .int (nI 1)), (2, .int (nI (Q.2))), (3, .int (nI (k))), (4, .int (nI (c))), (5, .int (nI 7))], [])) (h' := (Wd C e P Q (m + 1) N R t Z)) (by rfl) ?_
        refine eR.step 3 (F' := (47, [(0, .ref 23), (1, .int (nI 1)), (2, .int (nI (Q.2))), (3, .int (nI (k))), (4, .int (nI (c))), (5, .int (nI 7))], [.int (nI (Q.2)), .int (nI (k))])) (h' := (Wd C e P Q (m + 1) N R t Z)) (fun _ _ => rfl) ?_
        refine eR.icmp rfl false ((nc_ge (by omega) (by omega)).trans (decide_eq_false (by omega))) ?_
        refine eR.step 3 (F' := (53, [(0, .ref 23), (1, .int (nI 1)), (2, .int (nI (Q.2))), (3, .int (nI (k))), (4, .int (nI (c))), (5, .int (nI 7))], [.int (nI (k)), .int (nI 1), .ref 23])) (h' := (Wd C e P Q (m + 1) N R t Z)) (fun _ _ => rfl) ?_
        refine eR.call (k' := 125) (as := [.ref 23, .int (nI 1), .int (nI (k))]) (rest := []) (v := some (.int (nI (Q.1 k)))) (h1 := (Wd C e P Q (m + 1) N R t Z)) rfl rfl rfl rfl (eg (Nat.le_of_ble_eq_true rfl) (show 22 ≤ lo by omega) (Nat.le_of_ble_eq_true rfl)) (m_char1 hl (by omega)) ?_
        refine eR.step 1 (F' := (58, [(0, .ref 23), (1, .int (nI 1)), (2, .int (nI (Q.2))), (3, .int (nI (k))), (4, .int (nI (c))), (5, .int (nI 7))], [.int (nI 47), .int (nI (Q.1 k))])) (h' := (Wd C e P Q (m + 1) N R t Z)) (fun _ _ => rfl) ?_
        by_cases h47 : Q.1 k = 47
        · rw [if_pos h47]
          refine eR.icmp rfl true ((nc_eq (by omega) (by omega)).trans (decide_eq_true (by omega))) ?_
          refine eR.step 1 (F' := (66, [(0, .ref 23), (1, .int (nI 1)), (2, .int (nI (Q.2))), (3, .int (nI (k) + 1)), (4, .int (nI (c))), (5, .int (nI 7))], [])) (h' := (Wd C e P Q (m + 1) N R t Z)) (fun _ _ => rfl) ?_
          rw [show nI (k) + 1 = nI (k + 1) from nI_add (k) 1]
          refine eR.step 4 (F' := (72, [(0, .ref 23), (1, .int (nI 1)), (2, .int (nI (Q.2))), (3, .int (nI (k + 1))), (4, .int (nI 0)), (5, .int (nI 0))], [])) (h' := (Wd C e P Q (m + 1) N R t Z)) (fun _ _ => rfl) ?_
          refine l_pz1 (by omega) 7 0 N (by omega) ?_
          rw [Nat.add_zero]
          exact l_parse1 hlo ht hl n (k + 1) 0 (m + 1) _ (by omega) (by omega) (by omega)
        · rw [if_neg h47]
          refine eR.icmp rfl false ((nc_eq (by omega) (by omega)).trans (decide_eq_false (by omega))) ?_
          refine eR.step 1 (F' := (62, [(0, .ref 23), (1, .int (nI 1)), (2, .int (nI (Q.2))), (3, .int (nI (k))), (4, .int (nI (c))), (5, .int (nI 7))], [.int (nI 0)])) (h' := (Wd C e P Q (m + 1) N R t Z)) (fun _ _ => rfl) ?_
          exact eR.ret rfl rfl rfl
theorem m_parse1 {cm sm fr lo : Nat} {C : gC} {e : Nat → Nat} {P Q : gT} {m : Nat} {N : Nat → Nat} {R : gS} {t : Nat} {Z : mj_H} (hlo : 22 ≤ lo) (ht : ∀ k, Q.1 k < 65536) (hl : Q.2 ≤ 40) : eE mm_P cm sm (fr + 2) lo 124 [.ref 23, .int (nI 1)] (Wd C e P Q m N R t Z) (.inl (some (.int (nI (bi (pP Q.1 Q.2 N).1)))), (Wd C e P Q (pP Q.1 Q.2 N).2.1 (pP Q.1 Q.2 N).2.2 R t Z)) := by
  refine eE.of ?_
  refine eR.step 1 (F' := (1, [(0, .ref 23), (1, .int (nI 1))], [.int (nI 1)])) (h' := (Wd C e P Q m N R t Z)) (fun _ _ => rfl) ?_
  refine eR.ifc rfl false rfl ?_
  refine eR.step 6 (F' := (18, [(0, .ref 23), (1, .int (nI 1)), (2, .int (nI (Q.2)))], [.int (nI 0), .ref 23])) (h' := (Wd C e P Q m N R t Z)) (fun _ _ => rfl) ?_
  refine eR.sim rfl (F := (21, [(0, .ref 23), (1, .int (nI 1)), (2, .int (nI (Q.2)))], [])) (h' := (Wd C e P Q 0 N R t Z)) (by rfl) ?_
  refine eR.step 2 (F' := (23, [(0, .ref 23), (1, .int (nI 1)), (2, .int (nI (Q.2)))], [.int (nI 1), .int (nI (Q.2))])) (h' := (Wd C e P Q 0 N R t Z)) (fun _ _ => rfl) ?_
  unfold pP
  by_cases h1 : Q.2 = 1
  · rw [if_pos h1]
    refine eR.icmp rfl false ((nc_ne (by omega) (by omega)).trans (decide_eq_false (by omega))) ?_
    refine eR.step 3 (F' := (29, [(0, .ref 23), (1, .int (nI 1)), (2, .int (nI (Q.2)))], [.int (nI 0), .int (nI 1), .ref 23])) (h' := (Wd C e P Q 0 N R t Z)) (fun _ _ => rfl) ?_
    refine eR.call (k' := 125) (as := [.ref 23, .int (nI 1), .int (nI 0)]) (rest := []) (v := some (.int (nI (Q.1 0)))) (h1 := (Wd C e P Q 0 N R t Z)) rfl rfl rfl rfl (eg (Nat.le_of_ble_eq_true rfl) (show 22 ≤ lo by omega) (Nat.le_of_ble_eq_true rfl)) (m_char1 hl (by omega)) ?_
    have h7 := ht 0
    refine eR.step 1 (F' := (34, [(0, .ref 23), (1, .int (nI 1)), (2, .int (nI (Q.2)))], [.int (nI 47), .int (nI (Q.1 0))])) (h' := (Wd C e P Q 0 N R t Z)) (fun _ _ => rfl) ?_
    by_cases h2 : Q.1 0 = 47
    · rw [decide_eq_true h2]
      refine eR.icmp rfl false ((nc_ne (by omega) (by omega)).trans (decide_eq_false (by omega))) ?_
      refine eR.step 2 (F' := (42, [(0, .ref 23), (1, .int (nI 1)), (2, .int (nI (Q.2)))], [.int (nI 1)])) (h' := (Wd C e P Q 0 N R t Z)) (fun _ _ => rfl) ?_
      exact eR.ret rfl rfl rfl
    · rw [decide_eq_false h2]
      refine eR.icmp rfl true ((nc_ne (by omega) (by omega)).trans (decide_eq_true (by omega))) ?_
      refine eR.step 1 (F' := (42, [(0, .ref 23), (1, .int (nI 1)), (2, .int (nI (Q.2)))], [.int (nI 0)])) (h' := (Wd C e P Q 0 N R t Z)) (fun _ _ => rfl) ?_
      exact eR.ret rfl rfl rfl
  · rw [if_neg h1]
    refine eR.icmp rfl true ((nc_ne (by omega) (by omega)).trans (decide_eq_true (by omega))) ?_
    refine eR.step 4 (F' := (47, [(0, .ref 23), (1, .int (nI 1)), (2, .int (nI (Q.2))), (3, .int (nI 0))], [.int (nI (Q.2)), .int (nI 0)])) (h' := (Wd C e P Q 0 N R t Z)) (fun _ _ => rfl) ?_
    by_cases h0 : Q.2 = 0
    · rw [if_pos h0]
      refine eR.icmp rfl true ((nc_ge (by omega) (by omega)).trans (decide_eq_true (by omega))) ?_
      refine eR.step 1 (F' := (183, [(0, .ref 23), (1, .int (nI 1)), (2, .int (nI (Q.2))), (3, .int (nI 0))], [.int (nI (Q.2))])) (h' := (Wd C e P Q 0 N R t Z)) (fun _ _ => rfl) ?_
      refine eR.ifc rfl true ((nc_le (b := 0) (by omega) (by decide)).trans (decide_eq_true (by omega))) ?_
      refine eR.step 1 (F' := (191, [(0, .ref 23), (1, .int (nI 1)), (2, .int (nI (Q.2))), (3, .int (nI 0))], [.int (nI 0)])) (h' := (Wd C e P Q 0 N R t Z)) (fun _ _ => rfl) ?_
      exact eR.ret rfl rfl rfl
    · rw [if_neg h0]
      refine eR.icmp rfl false ((nc_ge (by omega) (by omega)).trans (decide_eq_false (by omega))) ?_
      refine eR.step 3 (F' := (53, [(0, .ref 23), (1, .int (nI 1)), (2, .int (nI (Q.2))), (3, .int (nI 0))], [.int (nI 0), .int (nI 1), .ref 23])) (h' := (Wd C e P Q 0 N R t Z)) (fun _ _ => rfl) ?_
      refine eR.call (k' := 125) (as := [.ref 23, .int (nI 1), .int (nI 0)]) (rest := []) (v := some (.int (nI (Q.1 0)))) (h1 := (Wd C e P Q 0 N R t Z)) rfl rfl rfl rfl (eg (Nat.le_of_ble_eq_true rfl) (show 22 ≤ lo by omega) (Nat.le_of_ble_eq_true rfl)) (m_char1 hl (by omega)) ?_
      have h7 := ht 0
      refine eR.step 1 (F' := (58, [(0, .ref 23), (1, .int (nI 1)), (2, .int (nI (Q.2))), (3, .int (nI 0))], [.int (nI 47), .int (nI (Q.1 0))])) (h' := (Wd C e P Q 0 N R t Z)) (fun _ _ => rfl) ?_
      by_cases h2 : Q.1 0 = 47
      · rw [if_pos h2]
        refine eR.icmp rfl true ((nc_eq (by omega) (by omega)).trans (decide_eq_true (by omega))) ?_
        refine eR.step 1 (F' := (66, [(0, .ref 23), (1, .int (nI 1)), (2, .int (nI (Q.2))), (3, .int (nI (0) + 1))], [])) (h' := (Wd C e P Q 0 N R t Z)) (fun _ _ => rfl) ?_
        rw [show nI (0) + 1 = nI (0 + 1) from nI_add (0) 1]
        refine eR.step 4 (F' := (72, [(0, .ref 23), (1, .int (nI 1)), (2, .int (nI (Q.2))), (3, .int (nI (0 + 1))), (4, .int (nI 0)), (5, .int (nI 0))], [])) (h' := (Wd C e P Q 0 N R t Z)) (fun _ _ => rfl) ?_
        refine l_pz1 (by omega) 7 0 N (by omega) ?_
        exact l_parse1 hlo ht hl (Q.2 - 1) 1 0 0 _ (by omega) (by omega) (by omega)
      · rw [if_neg h2]
        refine eR.icmp rfl false ((nc_eq (by omega) (by omega)).trans (decide_eq_false (by omega))) ?_
        refine eR.step 1 (F' := (62, [(0, .ref 23), (1, .int (nI 1)), (2, .int (nI (Q.2))), (3, .int (nI 0))], [.int (nI 0)])) (h' := (Wd C e P Q 0 N R t Z)) (fun _ _ => rfl) ?_
        exact eR.ret rfl rfl rfl

