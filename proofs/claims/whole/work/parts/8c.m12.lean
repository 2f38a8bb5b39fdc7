theorem rI_dk (f : Nat → Bool) (lf : Nat → Nat) (r : Bool) (n : Nat) : ∀ (d : Nat → Nat) (i : Nat), dk d → dk (rI f lf r d i n) := by
  induction n with
  | zero => intro d i h; exact h
  | succ n ih =>
    intro d i h
    rw [rI]
    apply ih
    split
    · split
      · exact dk_dp _ (dk_rm _ h _ _ _) _ _
      · exact dk_rm _ h _ _ _
    · exact h
theorem rJ_dk (g : Nat → Bool) (r : Bool) (n : Nat) : ∀ (d : Nat → Nat) (i : Nat), dk d → dk (rJ g r d i n) := by
  induction n with
  | zero => intro d i h; exact h
  | succ n ih =>
    intro d i h
    rw [rJ]
    apply ih
    split
    · exact dk_rm _ h _ _ _
    · exact h
theorem mc_bb {a b : Bool} (h : a = b) : mj_cmp .eq (nI (bi a)) (nI (bi b)) = true := by rw [h]; exact decide_eq_true rfl
theorem mc_bn {a b : Bool} (h : ¬ a = b) : mj_cmp .eq (nI (bi a)) (nI (bi b)) = false := by
  cases a <;> cases b
  · exact absurd rfl h
  · rfl
  · rfl
  · exact absurd rfl h
theorem l_c1_0 {cm sm fr lo : Nat} {C : gC} {P Q : gT} {m : Nat} {N : Nat → Nat} {R : gS} {t : Nat} {Z : mj_H} (hlo : 113 ≤ lo) (hlf : ∀ i, 1 ≤ i → i < 16 → R.1 i = true → R.2.2.1 i < 256) (hl2 : ∀ i, R.2.2.1 i < 2 ^ 20) {r : mj_O × mj_H} : ∀ (q i c : Nat) (e : Nat → Nat), dk e → 1 ≤ i → i + q = 16 → eR mm_P cm sm (fr + 2) lo 159 (141, [(0, .ref 23), (1, .int (nI 0)), (2, .int (nI (rIc R.1 R.2.2.1 false e c i q))), (3, .int (nI 16))], []) (Wd C (rI R.1 R.2.2.1 false e i q) P Q m N R t Z) r → eR mm_P cm sm (fr + 2) lo 159 (13, [(0, .ref 23), (1, .int (nI 0)), (2, .int (nI (c))), (3, .int (nI (i)))], []) (Wd C e P Q m N R t Z) r
  | 0, i, c, e, he, h0, h1, w => by
    have e0 : i = 16 := by omega
    subst e0
    refine eR.step 2 (F' := (16, [(0, .ref 23), (1, .int (nI 0)), (2, .int (nI (c))), (3, .int (nI 16))], [.int (nI 16), .int (nI 16)])) (h' := (Wd C e P Q m N R t Z)) (fun _ _ => rfl) ?_
    refine eR.icmp rfl true ((nc_ge (by omega) (by omega)).trans (decide_eq_true (by omega))) ?_
    exact w
  | q + 1, i, c, e, he, h0, h1, w => by
    rw [rI, rIc] at w
    have h6 := he.1 (32 + (16 * i) + 1)
    have h7 := hl2 i
    refine eR.step 2 (F' := (16, [(0, .ref 23), (1, .int (nI 0)), (2, .int (nI (c))), (3, .int (nI (i)))], [.int (nI 16), .int (nI (i))])) (h' := (Wd C e P Q m N R t Z)) (fun _ _ => rfl) ?_
    refine eR.icmp rfl false ((nc_ge (by omega) (by omega)).trans (decide_eq_false (by omega))) ?_
    refine eR.step 3 (F' := (22, [(0, .ref 23), (1, .int (nI 0)), (2, .int (nI (c))), (3, .int (nI (i)))], [.int (nI (i)), .int (nI 1), .ref 23])) (h' := (Wd C e P Q m N R t Z)) (fun _ _ => rfl) ?_
    refine eR.call (k' := 110) (as := [.ref 23, .int (nI 1), .int (nI (i))]) (rest := []) (v := some (.int (nI (bi (bt e 1 i))))) (h1 := (Wd C e P Q m N R t Z)) rfl rfl rfl rfl (eg (Nat.le_of_ble_eq_true rfl) (show 22 ≤ lo by omega) (Nat.le_of_ble_eq_true rfl)) (m_is he (by omega) (by omega)) ?_
    refine eR.step 3 (F' := (30, [(0, .ref 23), (1, .int (nI 0)), (2, .int (nI (c))), (3, .int (nI (i)))], [.int (nI (i)), .ref 28, .int (nI (bi (bt e 1 i)))])) (h' := (Wd C e P Q m N R t Z)) (fun _ _ => rfl) ?_
    refine eR.ld28 rfl (by omega) ?_
    by_cases hb : bt e 1 i = R.1 i
    · rw [if_pos hb] at w
      refine eR.icmp rfl true (mc_bb hb) ?_
      refine eR.step 5 (F' := (47, [(0, .ref 23), (1, .int (nI 0)), (2, .int (nI (c))), (3, .int (nI (i)))], [.int (nI (i)), .ref 28])) (h' := (Wd C e P Q m N R t Z)) (fun _ _ => rfl) ?_
      refine eR.ld28 rfl (by omega) ?_
      by_cases hf : R.1 i = true
      · refine eR.ifc rfl false (mb_et hf) ?_
        refine eR.step 3 (F' := (56, [(0, .ref 23), (1, .int (nI 0)), (2, .int (nI (c))), (3, .int (nI (i)))], [.int (nI (i)), .ref 24])) (h' := (Wd C e P Q m N R t Z)) (fun _ _ => rfl) ?_
        refine eR.call (k' := 111) (as := [.int (nI (i))]) (rest := [.ref 24]) (v := some (.int (nI (32 + (16 * i))))) (h1 := (Wd C e P Q m N R t Z)) rfl rfl rfl rfl (eg (Nat.le_of_ble_eq_true rfl) (show 20 ≤ lo by omega) (Nat.le_of_ble_eq_true rfl)) (m_at (by omega)) ?_
        refine eR.step 1 (F' := (60, [(0, .ref 23), (1, .int (nI 0)), (2, .int (nI (c))), (3, .int (nI (i)))], [.int (nI 1), .int (nI (32 + (16 * i))), .ref 24])) (h' := (Wd C e P Q m N R t Z)) (fun _ _ => rfl) ?_
        refine eR.nadd rfl ?_
        refine eR.ld24 rfl (by omega) ?_
        refine eR.step 3 (F' := (67, [(0, .ref 23), (1, .int (nI 0)), (2, .int (nI (c))), (3, .int (nI (i)))], [.int (nI (i)), .ref 29, .int (nI (e ((32 + (16 * i)) + 1)))])) (h' := (Wd C e P Q m N R t Z)) (fun _ _ => rfl) ?_
        refine eR.ld29 rfl (by omega) ?_
        by_cases hl : e (32 + (16 * i) + 1) = R.2.2.1 i
        · rw [if_neg (show ¬ (R.1 i = true ∧ e (32 + (16 * i) + 1) ≠ R.2.2.1 i) from fun z => z.2 hl)] at w
          refine eR.icmp rfl true ((nc_eq (by omega) (by omega)).trans (decide_eq_true (by omega))) ?_
          refine eR.step 3 (F' := (80, [(0, .ref 23), (1, .int (nI 0)), (2, .int (nI (c))), (3, .int (nI (i)))], [.int (nI 0)])) (h' := (Wd C e P Q m N R t Z)) (fun _ _ => rfl) ?_
          refine eR.ifc rfl true rfl ?_
          refine eR.step 1 (F' := (138, [(0, .ref 23), (1, .int (nI 0)), (2, .int (nI (c))), (3, .int (nI (i) + 1))], [])) (h' := (Wd C e P Q m N R t Z)) (fun _ _ => rfl) ?_
          rw [show nI (i) + 1 = nI (i + 1) from nI_add (i) 1]
          refine eR.step 1 (F' := (13, [(0, .ref 23), (1, .int (nI 0)), (2, .int (nI (c))), (3, .int (nI (i + 1)))], [])) (h' := (Wd C e P Q m N R t Z)) (fun _ _ => rfl) ?_
          rw [if_neg (show ¬ (false = true) from Bool.noConfusion)] at w
          exact l_c1_0 hlo hlf hl2 q (i + 1) _ e he (by omega) (by omega) w
        · rw [if_pos (show R.1 i = true ∧ e (32 + (16 * i) + 1) ≠ R.2.2.1 i from ⟨hf, hl⟩)] at w
          refine eR.icmp rfl false ((nc_eq (by omega) (by omega)).trans (decide_eq_false (by omega))) ?_
          refine eR.step 2 (F' := (73, [(0, .ref 23), (1, .int (nI 0)), (2, .int (nI (c))), (3, .int (nI (i)))], [.int (nI 1), .int (nI (c))])) (h' := (Wd C e P Q m N R t Z)) (fun _ _ => rfl) ?_
          refine eR.nadd rfl ?_
          refine eR.step 3 (F' := (80, [(0, .ref 23), (1, .int (nI 0)), (2, .int (nI (c + 1))), (3, .int (nI (i)))], [.int (nI 0)])) (h' := (Wd C e P Q m N R t Z)) (fun _ _ => rfl) ?_
          refine eR.ifc rfl true rfl ?_
          refine eR.step 1 (F' := (138, [(0, .ref 23), (1, .int (nI 0)), (2, .int (nI (c + 1))), (3, .int (nI (i) + 1))], [])) (h' := (Wd C e P Q m N R t Z)) (fun _ _ => rfl) ?_
          rw [show nI (i) + 1 = nI (i + 1) from nI_add (i) 1]
          refine eR.step 1 (F' := (13, [(0, .ref 23), (1, .int (nI 0)), (2, .int (nI (c + 1))), (3, .int (nI (i + 1)))], [])) (h' := (Wd C e P Q m N R t Z)) (fun _ _ => rfl) ?_
          rw [if_neg (show ¬ (false = true) from Bool.noConfusion)] at w
          exact l_c1_0 hlo hlf hl2 q (i + 1) _ e he (by omega) (by omega) w
      · rw [if_neg (show ¬ (R.1 i = true ∧ e (32 + (16 * i) + 1) ≠ R.2.2.1 i) from fun z => hf z.1)] at w
        refine eR.ifc rfl true (mb_ef hf) ?_
        refine eR.step 3 (F' := (80, [(0, .ref 23), (1, .int (nI 0)), (2, .int (nI (c))), (3, .int (nI (i)))], [.int (nI 0)])) (h' := (Wd C e P Q m N R t Z)) (fun _ _ => rfl) ?_
        refine eR.ifc rfl true rfl ?_
        refine eR.step 1 (F' := (138, [(0, .ref 23), (1, .int (nI 0)), (2, .int (nI (c))), (3, .int (nI (i) + 1))], [])) (h' := (Wd C e P Q m N R t Z)) (fun _ _ => rfl) ?_
        rw [show nI (i) + 1 = nI (i + 1) from nI_add (i) 1]
        refine eR.step 1 (F' := (13, [(0, .ref 23), (1, .int (nI 0)), (2, .int (nI (c))), (3, .int (nI (i + 1)))], [])) (h' := (Wd C e P Q m N R t Z)) (fun _ _ => rfl) ?_
        rw [if_neg (show ¬ (false = true) from Bool.noConfusion)] at w
        exact l_c1_0 hlo hlf hl2 q (i + 1) _ e he (by omega) (by omega) w
    · rw [if_neg hb] at w
      refine eR.icmp rfl false (mc_bn hb) ?_
      refine eR.step 2 (F' := (36, [(0, .ref 23), (1, .int (nI 0)), (2, .int (nI (c))), (3, .int (nI (i)))], [.int (nI 1), .int (nI (c))])) (h' := (Wd C e P Q m N R t Z)) (fun _ _ => rfl) ?_
      refine eR.nadd rfl ?_
      refine eR.step 5 (F' := (47, [(0, .ref 23), (1, .int (nI 0)), (2, .int (nI (c + 1))), (3, .int (nI (i)))], [.int (nI (i)), .ref 28])) (h' := (Wd C e P Q m N R t Z)) (fun _ _ => rfl) ?_
      refine eR.ld28 rfl (by omega) ?_
      by_cases hf : R.1 i = true
      · refine eR.ifc rfl false (mb_et hf) ?_
        refine eR.step 3 (F' := (56, [(0, .ref 23), (1, .int (nI 0)), (2, .int (nI (c + 1))), (3, .int (nI (i)))], [.int (nI (i)), .ref 24])) (h' := (Wd C e P Q m N R t Z)) (fun _ _ => rfl) ?_
        refine eR.call (k' := 111) (as := [.int (nI (i))]) (rest := [.ref 24]) (v := some (.int (nI (32 + (16 * i))))) (h1 := (Wd C e P Q m N R t Z)) rfl rfl rfl rfl (eg (Nat.le_of_ble_eq_true rfl) (show 20 ≤ lo by omega) (Nat.le_of_ble_eq_true rfl)) (m_at (by omega)) ?_
        refine eR.step 1 (F' := (60, [(0, .ref 23), (1, .int (nI 0)), (2, .int (nI (c + 1))), (3, .int (nI (i)))], [.int (nI 1), .int (nI (32 + (16 * i))), .ref 24])) (h' := (Wd C e P Q m N R t Z)) (fun _ _ => rfl) ?_
        refine eR.nadd rfl ?_
        refine eR.ld24 rfl (by omega) ?_
        refine eR.step 3 (F' := (67, [(0, .ref 23), (1, .int (nI 0)), (2, .int (nI (c + 1))), (3, .int (nI (i)))], [.int (nI (i)), .ref 29, .int (nI (e ((32 + (16 * i)) + 1)))])) (h' := (Wd C e P Q m N R t Z)) (fun _ _ => rfl) ?_
        refine eR.ld29 rfl (by omega) ?_
        by_cases hl : e (32 + (16 * i) + 1) = R.2.2.1 i
        · rw [if_neg (show ¬ (R.1 i = true ∧ e (32 + (16 * i) + 1) ≠ R.2.2.1 i) from fun z => z.2 hl)] at w
          refine eR.icmp rfl true ((nc_eq (by omega) (by omega)).trans (decide_eq_true (by omega))) ?_
          refine eR.step 3 (F' := (80, [(0, .ref 23), (1, .int (nI 0)), (2, .int (nI (c + 1))), (3, .int (nI (i)))], [.int (nI 0)])) (h' := (Wd C e P Q m N R t Z)) (fun _ _ => rfl) ?_
          refine eR.ifc rfl true rfl ?_
          refine eR.step 1 (F' := (138, [(0, .ref 23), (1, .int (nI 0)), (2, .int (nI (c + 1))), (3, .int (nI (i) + 1))], [])) (h' := (Wd C e P Q m N R t Z)) (fun _ _ => rfl) ?_
          rw [show nI (i) + 1 = nI (i + 1) from nI_add (i) 1]
          refine eR.step 1 (F' := (13, [(0, .ref 23), (1, .int (nI 0)), (2, .int (nI (c + 1))), (3, .int (nI (i + 1)))], [])) (h' := (Wd C e P Q m N R t Z)) (fun _ _ => rfl) ?_
          rw [if_neg (show ¬ (false = true) from Bool.noConfusion)] at w
          exact l_c1_0 hlo hlf hl2 q (i + 1) _ e he (by omega) (by omega) w
        · rw [if_pos (show R.1 i = true ∧ e (32 + (16 * i) + 1) ≠ R.2.2.1 i from ⟨hf, hl⟩)] at w
          refine eR.icmp rfl false ((nc_eq (by omega) (by omega)).trans (decide_eq_false (by omega))) ?_
          refine eR.step 2 (F' := (73, [(0, .ref 23), (1, .int (nI 0)), (2, .int (nI (c + 1))), (3, .int (nI (i)))], [.int (nI 1), .int (nI (c + 1))])) (h' := (Wd C e P Q m N R t Z)) (fun _ _ => rfl) ?_
          refine eR.nadd rfl ?_
          refine eR.step 3 (F' := (80, [(0, .ref 23), (1, .int (nI 0)), (2, .int (nI ((c + 1) + 1))), (3, .int (nI (i)))], [.int (nI 0)])) (h' := (Wd C e P Q m N R t Z)) (fun _ _ => rfl) ?_
          refine eR.ifc rfl true rfl ?_
          refine eR.step 1 (F' := (138, [(0, .ref 23), (1, .int (nI 0)), (2, .int (nI ((c + 1) + 1))), (3, .int (nI (i) + 1))], [])) (h' := (Wd C e P Q m N R t Z)) (fun _ _ => rfl) ?_
          rw [show nI (i) + 1 = nI (i + 1) from nI_add (i) 1]
          refine eR.step 1 (F' := (13, [(0, .ref 23), (1, .int (nI 0)), (2, .int (nI ((c + 1) + 1))), (3, .int (nI (i + 1)))], [])) (h' := (Wd C e P Q m N R t Z)) (fun _ _ => rfl) ?_
          rw [if_neg (show ¬ (false = true) from Bool.noConfusion)] at w
          exact l_c1_0 hlo hlf hl2 q (i + 1) _ e he (by omega) (by omega) w
      · rw [if_neg (show ¬ (R.1 i = true ∧ e (32 + (16 * i) + 1) ≠ R.2.2.1 i) from fun z => hf z.1)] at w
        refine eR.ifc rfl true (mb_ef hf) ?_
        refine eR.step 3 (F' := (80, [(0, .ref 23), (1, .int (nI 0)), (2, .int (nI (c + 1))), (3, .int (nI (i)))], [.int (nI 0)])) (h' := (Wd C e P Q m N R t Z)) (fun _ _ => rfl) ?_
        refine eR.ifc rfl true rfl ?_
        refine eR.step 1 (F' := (138, [(0, .ref 23), (1, .int (nI 0)), (2, .int (nI (c + 1))), (3, .int (nI (i) + 1))], [])) (h' := (Wd C e P Q m N R t Z)) (fun _ _ => rfl) ?_
        rw [show nI (i) + 1 = nI (i + 1) from nI_add (i) 1]
        refine eR.step 1 (F' := (13, [(0, .ref 23), (1, .int (nI 0)), (2, .int (nI (c + 1))), (3, .int (nI (i + 1)))], [])) (h' := (Wd C e P Q m N R t Z)) (fun _ _ => rfl) ?_
        rw [if_neg (show ¬ (false = true) from Bool.noConfusion)] at w
        exact l_c1_0 hlo hlf hl2 q (i + 1) _ e he (by omega) (by omega) w
theorem l_c2_0 {cm sm fr lo : Nat} {C : gC} {P Q : gT} {m : Nat} {N : Nat → Nat} {R : gS} {t : Nat} {Z : mj_H} (hlo : 113 ≤ lo) {r : mj_O × mj_H} : ∀ (q i c : Nat) (e : Nat → Nat), dk e → i + q = 64 → eR mm_P cm sm (fr + 2) lo 159 (195, [(0, .ref 23), (1, .int (nI 0)), (2, .int (nI (rJc R.2.1 false e c i q))), (3, .int (nI 64))], []) (Wd C (rJ R.2.1 false e i q) P Q m N R t Z) r → eR mm_P cm sm (fr + 2) lo 159 (144, [(0, .ref 23), (1, .int (nI 0)), (2, .int (nI (c))), (3, .int (nI (i)))], []) (Wd C e P Q m N R t Z) r
  | 0, i, c, e, he, h1, w => by
    have e0 : i = 64 := by omega
    subst e0
    refine eR.step 2 (F' := (147, [(0, .ref 23), (1, .int (nI 0)), (2, .int (nI (c))), (3, .int (nI 64))], [.int (nI 64), .int (nI 64)])) (h' := (Wd C e P Q m N R t Z)) (fun _ _ => rfl) ?_
    refine eR.icmp rfl true ((nc_ge (by omega) (by omega)).trans (decide_eq_true (by omega))) ?_
    exact w
  | q + 1, i, c, e, he, h1, w => by
    rw [rJ, rJc] at w
    refine eR.step 2 (F' := (147, [(0, .ref 23), (1, .int (nI 0)), (2, .int (nI (c))), (3, .int (nI (i)))], [.int (nI 64), .int (nI (i))])) (h' := (Wd C e P Q m N R t Z)) (fun _ _ => rfl) ?_
    refine eR.icmp rfl false ((nc_ge (by omega) (by omega)).trans (decide_eq_false (by omega))) ?_
    refine eR.step 3 (F' := (153, [(0, .ref 23), (1, .int (nI 0)), (2, .int (nI (c))), (3, .int (nI (i)))], [.int (nI (i)), .int (nI 3), .ref 23])) (h' := (Wd C e P Q m N R t Z)) (fun _ _ => rfl) ?_
    refine eR.call (k' := 110) (as := [.ref 23, .int (nI 3), .int (nI (i))]) (rest := []) (v := some (.int (nI (bi (bt e 3 i))))) (h1 := (Wd C e P Q m N R t Z)) rfl rfl rfl rfl (eg (Nat.le_of_ble_eq_true rfl) (show 22 ≤ lo by omega) (Nat.le_of_ble_eq_true rfl)) (m_is he (by omega) (by omega)) ?_
    refine eR.step 3 (F' := (161, [(0, .ref 23), (1, .int (nI 0)), (2, .int (nI (c))), (3, .int (nI (i)))], [.int (nI (i)), .ref 30, .int (nI (bi (bt e 3 i)))])) (h' := (Wd C e P Q m N R t Z)) (fun _ _ => rfl) ?_
    refine eR.ld30 rfl (by omega) ?_
    by_cases hb : bt e 3 i = R.2.1 i
    · rw [if_pos hb] at w
      refine eR.icmp rfl true (mc_bb hb) ?_
      refine eR.step 3 (F' := (174, [(0, .ref 23), (1, .int (nI 0)), (2, .int (nI (c))), (3, .int (nI (i)))], [.int (nI 0)])) (h' := (Wd C e P Q m N R t Z)) (fun _ _ => rfl) ?_
      rw [if_neg (show ¬ (false = true) from Bool.noConfusion)] at w
      refine eR.ifc rfl true rfl ?_
      refine eR.step 1 (F' := (192, [(0, .ref 23), (1, .int (nI 0)), (2, .int (nI (c))), (3, .int (nI (i) + 1))], [])) (h' := (Wd C e P Q m N R t Z)) (fun _ _ => rfl) ?_
      rw [show nI (i) + 1 = nI (i + 1) from nI_add (i) 1]
      refine eR.step 1 (F' := (144, [(0, .ref 23), (1, .int (nI 0)), (2, .int (nI (c))), (3, .int (nI (i + 1)))], [])) (h' := (Wd C e P Q m N R t Z)) (fun _ _ => rfl) ?_
      exact l_c2_0 hlo q (i + 1) _ e he (by omega) w
    · rw [if_neg hb] at w
      refine eR.icmp rfl false (mc_bn hb) ?_
      refine eR.step 2 (F' := (167, [(0, .ref 23), (1, .int (nI 0)), (2, .int (nI (c))), (3, .int (nI (i)))], [.int (nI 1), .int (nI (c))])) (h' := (Wd C e P Q m N R t Z)) (fun _ _ => rfl) ?_
      refine eR.nadd rfl ?_
      refine eR.step 3 (F' := (174, [(0, .ref 23), (1, .int (nI 0)), (2, .int (nI (c + 1))), (3, .int (nI (i)))], [.int (nI 0)])) (h' := (Wd C e P Q m N R t Z)) (fun _ _ => rfl) ?_
      rw [if_neg (show ¬ (false = true) from Bool.noConfusion)] at w
      refine eR.ifc rfl true rfl ?_
      refine eR.step 1 (F' := (192, [(0, .ref 23), (1, .int (nI 0)), (2, .int (nI (c + 1))), (3, .int (nI (i) + 1))], [])) (h' := (Wd C e P Q m N R t Z)) (fun _ _ => rfl) ?_
      rw [show nI (i) + 1 = nI (i + 1) from nI_add (i) 1]
      refine eR.step 1 (F' := (144, [(0, .ref 23), (1, .int (nI 0)), (2, .int (nI (c + 1))), (3, .int (nI (i + 1)))], [])) (h' := (Wd C e P Q m N R t Z)) (fun _ _ => rfl) ?_
      exact l_c2_0 hlo q (i + 1) _ e he (by omega) w
theorem m_check0 {cm sm fr lo : Nat} {C : gC} {e : Nat → Nat} {P Q : gT} {m : Nat} {N : Nat → Nat} {R : gS} {t : Nat} {Z : mj_H} (hlo : 113 ≤ lo) (V : qV e) (hlf : ∀ i, 1 ≤ i → i < 16 → (tA e R).1 i = true → (tA e R).2.2.1 i < 256) (hl2 : ∀ i, (tA e R).2.2.1 i < 2 ^ 20) : eE mm_P cm sm (fr + 7) lo 159 [.ref 23, .int (nI 0)] (Wd C e P Q m N R t Z) (.inl (some (.int (nI (rKv e (tA e R) false)))), (Wd C (rK e (tA e R) false) P Q m N (tA e R) 0 Z)) := by
  refine eE.of ?_
  refine eR.step 2 (F' := (2, [(0, .ref 23), (1, .int (nI 0))], [.int (nI 0), .ref 23])) (h' := (Wd C e P Q m N R t Z)) (fun _ _ => rfl) ?_
  refine eR.sim rfl (F := (5, [(0, .ref 23), (1, .int (nI 0))], [])) (h' := (Wd C e P Q m N R 0 Z)) (by rfl) ?_
  refine eR.step 1 (F' := (6, [(0, .ref 23), (1, .int (nI 0))], [.ref 23])) (h' := (Wd C e P Q m N R 0 Z)) (fun _ _ => rfl) ?_
  refine eR.call (k' := 160) (as := [.ref 23]) (rest := []) (v := none) (h1 := (Wd C e P Q m N (tA e R) 0 Z)) rfl rfl rfl rfl (eg (Nat.le_of_ble_eq_true rfl) (show 25 ≤ lo by omega) (Nat.le_of_ble_eq_true rfl)) (m_walk (show 88 ≤ lo - 25 by omega) V) ?_
  refine eR.step 4 (F' := (13, [(0, .ref 23), (1, .int (nI 0)), (2, .int (nI 0)), (3, .int (nI 1))], [])) (h' := (Wd C e P Q m N (tA e R) 0 Z)) (fun _ _ => rfl) ?_
  have k1 : dk (rI (tA e R).1 (tA e R).2.2.1 false e 1 15) := rI_dk _ _ _ 15 e 1 V.B.dk
  have k2 : dk (rJ (tA e R).2.1 false (rI (tA e R).1 (tA e R).2.2.1 false e 1 15) 9 55) := rJ_dk _ _ 55 _ 9 k1
  refine l_c1_0 hlo hlf hl2 15 1 0 e V.B.dk (by omega) (by omega) ?_
  refine eR.step 2 (F' := (144, [(0, .ref 23), (1, .int (nI 0)), (2, .int (nI (rIc (tA e R).1 (tA e R).2.2.1 false e 0 1 15))), (3, .int (nI 9))], [])) (h' := (Wd C (rI (tA e R).1 (tA e R).2.2.1 false e 1 15) P Q m N (tA e R) 0 Z)) (fun _ _ => rfl) ?_
  refine l_c2_0 hlo 55 9 _ _ k1 (by omega) ?_
  show eR _ _ _ _ _ _ (195, [(0, .ref 23), (1, .int (nI 0)), (2, .int (nI (rKv e (tA e R) false))), (3, .int (nI 64))], []) (Wd C (rJ (tA e R).2.1 false (rI (tA e R).1 (tA e R).2.2.1 false e 1 15) 9 55) P Q m N (tA e R) 0 Z) _
  refine eR.step 4 (F' := (202, [(0, .ref 23), (1, .int (nI 0)), (2, .int (nI (rKv e (tA e R) false))), (3, .int (nI 64))], [.int (nI 0), .int (nI 11), .ref 24])) (h' := (Wd C (rJ (tA e R).2.1 false (rI (tA e R).1 (tA e R).2.2.1 false e 1 15) 9 55) P Q m N (tA e R) 0 Z)) (fun _ _ => rfl) ?_
  refine eR.ifc rfl true rfl ?_
  refine eR.step 3 (F' := (215, [(0, .ref 23), (1, .int (nI 0)), (2, .int (nI (rKv e (tA e R) false))), (3, .int (nI 64))], [.int (nI 11), .ref 24, .int (nI 11), .ref 24])) (h' := (Wd C (rJ (tA e R).2.1 false (rI (tA e R).1 (tA e R).2.2.1 false e 1 15) 9 55) P Q m N (tA e R) 0 Z)) (fun _ _ => rfl) ?_
  refine eR.ld24 rfl (by omega) ?_
  refine eR.st24 rfl (by omega) (k2.1 _) ?_
  rw [dp_self k2]
  rw [show (rJ (tA e R).2.1 false (rI (tA e R).1 (tA e R).2.2.1 false e 1 15) 9 55) = rK e (tA e R) false from (if_neg (by simp)).symm]
  refine eR.step 1 (F' := (218, [(0, .ref 23), (1, .int (nI 0)), (2, .int (nI (rKv e (tA e R) false))), (3, .int (nI 64))], [.int (nI (rKv e (tA e R) false))])) (h' := (Wd C (rK e (tA e R) false) P Q m N (tA e R) 0 Z)) (fun _ _ => rfl) ?_
  exact eR.ret rfl rfl rfl
theorem l_c1_1 {cm sm fr lo : Nat} {C : gC} {P Q : gT} {m : Nat} {N : Nat → Nat} {R : gS} {t : Nat} {Z : mj_H} (hlo : 113 ≤ lo) (hlf : ∀ i, 1 ≤ i → i < 16 → R.1 i = true → R.2.2.1 i < 256) (hl2 : ∀ i, R.2.2.1 i < 2 ^ 20) {r : mj_O × mj_H} : ∀ (q i c : Nat) (e : Nat → Nat), dk e → 1 ≤ i → i + q = 16 → eR mm_P cm sm (fr + 2) lo 159 (141, [(0, .ref 23), (1, .int (nI 1)), (2, .int (nI (rIc R.1 R.2.2.1 true e c i q))), (3, .int (nI 16))], []) (Wd C (rI R.1 R.2.2.1 true e i q) P Q m N R t Z) r → eR mm_P cm sm (fr + 2) lo 159 (13, [(0, .ref 23), (1, .int (nI 1)), (2, .int (nI (c))), (3, .int (nI (i)))], []) (Wd C e P Q m N R t Z) r
  | 0, i, c, e, he, h0, h1, w => by
    have e0 : i = 16 := by omega
    subst e0
    refine eR.step 2 (F' := (16, [(0, .ref 23), (1, .int (nI 1)), (2, .int (nI (c))), (3, .int (nI 16))], [.int (nI 16), .int (nI 16)])) (h' := (Wd C e P Q m N R t Z)) (fun _ _ => rfl) ?_
    refine eR.icmp rfl true ((nc_ge (by omega) (by omega)).trans (decide_eq_true (by omega))) ?_
    exact w
  | q + 1, i, c, e, he, h0, h1, w => by
    rw [rI, rIc] at w
    have h6 := he.1 (32 + (16 * i) + 1)
    have h7 := hl2 i
    refine eR.step 2 (F' := (16, [(0, .ref 23), (1, .int (nI 1)), (2, .int (nI (c))), (3, .int (nI (i)))], [.int (nI 16), .int (nI (i))])) (h' := (Wd C e P Q m N R t Z)) (fun _ _ => rfl) ?_
    refine eR.icmp rfl false ((nc_ge (by omega) (by omega)).trans (decide_eq_false (by omega))) ?_
    refine eR.step 3 (F' := (22, [(0, .ref 23), (1, .int (nI 1)), (2, .int (nI (c))), (3, .int (nI (i)))], [.int (nI (i)), .int (nI 1), .ref 23])) (h' := (Wd C e P Q m N R t Z)) (fun _ _ => rfl) ?_
    refine eR.call (k' := 110) (as := [.ref 23, .int (nI 1), .int (nI (i))]) (rest := []) (v := some (.int (nI (bi (bt e 1 i))))) (h1 := (Wd C e P Q m N R t Z)) rfl rfl rfl rfl (eg (Nat.le_of_ble_eq_true rfl) (show 22 ≤ lo by omega) (Nat.le_of_ble_eq_true rfl)) (m_is he (by omega) (by omega)) ?_
    refine eR.step 3 (F' := (30, [(0, .ref 23), (1, .int (nI 1)), (2, .int (nI (c))), (3, .int (nI (i)))], [.int (nI (i)), .ref 28, .int (nI (bi (bt e 1 i)))])) (h' := (Wd C e P Q m N R t Z)) (fun _ _ => rfl) ?_
    refine eR.ld28 rfl (by omega) ?_
    by_cases hb : bt e 1 i = R.1 i
    · rw [if_pos hb] at w
      refine eR.icmp rfl true (mc_bb hb) ?_
      refine eR.step 5 (F' := (47, [(0, .ref 23), (1, .int (nI 1)), (2, .int (nI (c))), (3, .int (nI (i)))], [.int (nI (i)), .ref 28])) (h' := (Wd C e P Q m N R t Z)) (fun _ _ => rfl) ?_
      refine eR.ld28 rfl (by omega) ?_
      by_cases hf : R.1 i = true
      · refine eR.ifc rfl false (mb_et hf) ?_
        refine eR.step 3 (F' := (56, [(0, .ref 23), (1, .int (nI 1)), (2, .int (nI (c))), (3, .int (nI (i)))], [.int (nI (i)), .ref 24])) (h' := (Wd C e P Q m N R t Z)) (fun _ _ => rfl) ?_
        refine eR.call (k' := 111) (as := [.int (nI (i))]) (rest := [.ref 24]) (v := some (.int (nI (32 + (16 * i))))) (h1 := (Wd C e P Q m N R t Z)) rfl rfl rfl rfl (eg (Nat.le_of_ble_eq_true rfl) (show 20 ≤ lo by omega) (Nat.le_of_ble_eq_true rfl)) (m_at (by omega)) ?_
        refine eR.step 1 (F' := (60, [(0, .ref 23), (1, .int (nI 1)), (2, .int (nI (c))), (3, .int (nI (i)))], [.int (nI 1), .int (nI (32 + (16 * i))), .ref 24])) (h' := (Wd C e P Q m N R t Z)) (fun _ _ => rfl) ?_
        refine eR.nadd rfl ?_
        refine eR.ld24 rfl (by omega) ?_
        refine eR.step 3 (F' := (67, [(0, .ref 23), (1, .int (nI 1)), (2, .int (nI (c))), (3, .int (nI (i)))], [.int (nI (i)), .ref 29, .int (nI (e ((32 + (16 * i)) + 1)))])) (h' := (Wd C e P Q m N R t Z)) (fun _ _ => rfl) ?_
        refine eR.ld29 rfl (by omega) ?_
        by_cases hl : e (32 + (16 * i) + 1) = R.2.2.1 i
        · rw [if_neg (show ¬ (R.1 i = true ∧ e (32 + (16 * i) + 1) ≠ R.2.2.1 i) from fun z => z.2 hl)] at w
          refine eR.icmp rfl true ((nc_eq (by omega) (by omega)).trans (decide_eq_true (by omega))) ?_
          refine eR.step 3 (F' := (80, [(0, .ref 23), (1, .int (nI 1)), (2, .int (nI (c))), (3, .int (nI (i)))], [.int (nI 1)])) (h' := (Wd C e P Q m N R t Z)) (fun _ _ => rfl) ?_
          rw [if_pos (show true = true from rfl), if_pos hf] at w
          have h8 := hlf i h0 (by omega) hf
          refine eR.ifc rfl false rfl ?_
          refine eR.step 6 (F' := (91, [(0, .ref 23), (1, .int (nI 1)), (2, .int (nI (c))), (3, .int (nI (i)))], [.int (nI (i)), .ref 28, .int (nI (i)), .int (nI 1), .ref 23])) (h' := (Wd C e P Q m N R t Z)) (fun _ _ => rfl) ?_
          refine eR.ld28 rfl (by omega) ?_
          refine eR.call (k' := 107) (as := [.ref 23, .int (nI 1), .int (nI (i)), .int (nI (bi (R.1 (i))))]) (rest := []) (v := none) (h1 := (Wd C (rm e 1 i (R.1 i)) P Q m N R t Z)) rfl rfl rfl rfl (eg (Nat.le_of_ble_eq_true rfl) (show 24 ≤ lo by omega) (Nat.le_of_ble_eq_true rfl)) (m_mark he (by omega) (by omega)) ?_
          refine eR.step 3 (F' := (100, [(0, .ref 23), (1, .int (nI 1)), (2, .int (nI (c))), (3, .int (nI (i)))], [.int (nI (i)), .ref 24])) (h' := (Wd C (rm e 1 i (R.1 i)) P Q m N R t Z)) (fun _ _ => rfl) ?_
          refine eR.call (k' := 111) (as := [.int (nI (i))]) (rest := [.ref 24]) (v := some (.int (nI (32 + (16 * i))))) (h1 := (Wd C (rm e 1 i (R.1 i)) P Q m N R t Z)) rfl rfl rfl rfl (eg (Nat.le_of_ble_eq_true rfl) (show 20 ≤ lo by omega) (Nat.le_of_ble_eq_true rfl)) (m_at (by omega)) ?_
          refine eR.step 1 (F' := (104, [(0, .ref 23), (1, .int (nI 1)), (2, .int (nI (c))), (3, .int (nI (i)))], [.int (nI 1), .int (nI (32 + (16 * i))), .ref 24])) (h' := (Wd C (rm e 1 i (R.1 i)) P Q m N R t Z)) (fun _ _ => rfl) ?_
          refine eR.nadd rfl ?_
          refine eR.step 3 (F' := (110, [(0, .ref 23), (1, .int (nI 1)), (2, .int (nI (c))), (3, .int (nI (i)))], [.int (nI (i)), .ref 28, .int (nI ((32 + (16 * i)) + 1)), .ref 24])) (h' := (Wd C (rm e 1 i (R.1 i)) P Q m N R t Z)) (fun _ _ => rfl) ?_
          refine eR.ld28 rfl (by omega) ?_
          refine eR.ifc rfl false (mb_et hf) ?_
          refine eR.step 3 (F' := (119, [(0, .ref 23), (1, .int (nI 1)), (2, .int (nI (c))), (3, .int (nI (i)))], [.int (nI (i)), .ref 29, .int (nI ((32 + (16 * i)) + 1)), .ref 24])) (h' := (Wd C (rm e 1 i (R.1 i)) P Q m N R t Z)) (fun _ _ => rfl) ?_
          refine eR.ld29 rfl (by omega) ?_
          refine eR.step 1 (F' := (134, [(0, .ref 23), (1, .int (nI 1)), (2, .int (nI (c))), (3, .int (nI (i)))], [.int (nI (R.2.2.1 (i))), .int (nI ((32 + (16 * i)) + 1)), .ref 24])) (h' := (Wd C (rm e 1 i (R.1 i)) P Q m N R t Z)) (fun _ _ => rfl) ?_
          refine eR.st24 rfl (by omega) (by omega) ?_
          refine eR.step 1 (F' := (138, [(0, .ref 23), (1, .int (nI 1)), (2, .int (nI (c))), (3, .int (nI (i) + 1))], [])) (h' := (Wd C (dp (rm e 1 i (R.1 i)) ((32 + (16 * i)) + 1) (R.2.2.1 (i))) P Q m N R t Z)) (fun _ _ => rfl) ?_
          rw [show nI (i) + 1 = nI (i + 1) from nI_add (i) 1]
          refine eR.step 1 (F' := (13, [(0, .ref 23), (1, .int (nI 1)), (2, .int (nI (c))), (3, .int (nI (i + 1)))], [])) (h' := (Wd C (dp (rm e 1 i (R.1 i)) ((32 + (16 * i)) + 1) (R.2.2.1 (i))) P Q m N R t Z)) (fun _ _ => rfl) ?_
          exact l_c1_1 hlo hlf hl2 q (i + 1) _ _ (dk_dp _ (dk_rm _ he _ _ _) _ _) (by omega) (by omega) w
        · rw [if_pos (show R.1 i = true ∧ e (32 + (16 * i) + 1) ≠ R.2.2.1 i from ⟨hf, hl⟩)] at w
          refine eR.icmp rfl false ((nc_eq (by omega) (by omega)).trans (decide_eq_false (by omega))) ?_
          refine eR.step 2 (F' := (73, [(0, .ref 23), (1, .int (nI 1)), (2, .int (nI (c))), (3, .int (nI (i)))], [.int (nI 1), .int (nI (c))])) (h' := (Wd C e P Q m N R t Z)) (fun _ _ => rfl) ?_
          refine eR.nadd rfl ?_
          refine eR.step 3 (F' := (80, [(0, .ref 23), (1, .int (nI 1)), (2, .int (nI (c + 1))), (3, .int (nI (i)))], [.int (nI 1)])) (h' := (Wd C e P Q m N R t Z)) (fun _ _ => rfl) ?_
          rw [if_pos (show true = true from rfl), if_pos hf] at w
          have h8 := hlf i h0 (by omega) hf
          refine eR.ifc rfl false rfl ?_
          refine eR.step 6 (F' := (91, [(0, .ref 23), (1, .int (nI 1)), (2, .int (nI (c + 1))), (3, .int (nI (i)))], [.int (nI (i)), .ref 28, .int (nI (i)), .int (nI 1), .ref 23])) (h' := (Wd C e P Q m N R t Z)) (fun _ _ => rfl) ?_
          refine eR.ld28 rfl (by omega) ?_
          refine eR.call (k' := 107) (as := [.ref 23, .int (nI 1), .int (nI (i)), .int (nI (bi (R.1 (i))))]) (rest := []) (v := none) (h1 := (Wd C (rm e 1 i (R.1 i)) P Q m N R t Z)) rfl rfl rfl rfl (eg (Nat.le_of_ble_eq_true rfl) (show 24 ≤ lo by omega) (Nat.le_of_ble_eq_true rfl)) (m_mark he (by omega) (by omega)) ?_
          refine eR.step 3 (F' := (100, [(0, .ref 23), (1, .int (nI 1)), (2, .int (nI (c + 1))), (3, .int (nI (i)))], [.int (nI (i)), .ref 24])) (h' := (Wd C (rm e 1 i (R.1 i)) P Q m N R t Z)) (fun _ _ => rfl) ?_
          refine eR.call (k' := 111) (as := [.int (nI (i))]) (rest := [.ref 24]) (v := some (.int (nI (32 + (16 * i))))) (h1 := (Wd C (rm e 1 i (R.1 i)) P Q m N R t Z)) rfl rfl rfl rfl (eg (Nat.le_of_ble_eq_true rfl) (show 20 ≤ lo by omega) (Nat.le_of_ble_eq_true rfl)) (m_at (by omega)) ?_
          refine eR.step 1 (F' := (104, [(0, .ref 23), (1, .int (nI 1)), (2, .int (nI (c + 1))), (3, .int (nI (i)))], [.int (nI 1), .int (nI (32 + (16 * i))), .ref 24])) (h' := (Wd C (rm e 1 i (R.1 i)) P Q m N R t Z)) (fun _ _ => rfl) ?_
          refine eR.nadd rfl ?_
          refine eR.step 3 (F' := (110, [(0, .ref 23), (1, .int (nI 1)), (2, .int (nI (c + 1))), (3, .int (nI (i)))], [.int (nI (i)), .ref 28, .int (nI ((32 + (16 * i)) + 1)), .ref 24])) (h' := (Wd C (rm e 1 i (R.1 i)) P Q m N R t Z)) (fun _ _ => rfl) ?_
          refine eR.ld28 rfl (by omega) ?_
          refine eR.ifc rfl false (mb_et hf) ?_
          refine eR.step 3 (F' := (119, [(0, .ref 23), (1, .int (nI 1)), (2, .int (nI (c + 1))), (3, .int (nI (i)))], [.int (nI (i)), .ref 29, .int (nI ((32 + (16 * i)) + 1)), .ref 24])) (h' := (Wd C (rm e 1 i (R.1 i)) P Q m N R t Z)) (fun _ _ => rfl) ?_
          refine eR.ld29 rfl (by omega) ?_
          refine eR.step 1 (F' := (134, [(0, .ref 23), (1, .int (nI 1)), (2, .int (nI (c + 1))), (3, .int (nI (i)))], [.int (nI (R.2.2.1 (i))), .int (nI ((32 + (16 * i)) + 1)), .ref 24])) (h' := (Wd C (rm e 1 i (R.1 i)) P Q m N R t Z)) (fun _ _ => rfl) ?_
          refine eR.st24 rfl (by omega) (by omega) ?_
          refine eR.step 1 (F' := (138, [(0, .ref 23), (1, .int (nI 1)), (2, .int (nI (c + 1))), (3, .int (nI (i) + 1))], [])) (h' := (Wd C (dp (rm e 1 i (R.1 i)) ((32 + (16 * i)) + 1) (R.2.2.1 (i))) P Q m N R t Z)) (fun _ _ => rfl) ?_
          rw [show nI (i) + 1 = nI (i + 1) from nI_add (i) 1]
          refine eR.step 1 (F' := (13, [(0, .ref 23), (1, .int (nI 1)), (2, .int (nI (c + 1))), (3, .int (nI (i + 1)))], [])) (h' := (Wd C (dp (rm e 1 i (R.1 i)) ((32 + (16 * i)) + 1) (R.2.2.1 (i))) P Q m N R t Z)) (fun _ _ => rfl) ?_
          exact l_c1_1 hlo hlf hl2 q (i + 1) _ _ (dk_dp _ (dk_rm _ he _ _ _) _ _) (by omega) (by omega) w
      · rw [if_neg (show ¬ (R.1 i = true ∧ e (32 + (16 * i) + 1) ≠ R.2.2.1 i) from fun z => hf z.1)] at w
        refine eR.ifc rfl true (mb_ef hf) ?_
        refine eR.step 3 (F' := (80, [(0, .ref 23), (1, .int (nI 1)), (2, .int (nI (c))), (3, .int (nI (i)))], [.int (nI 1)])) (h' := (Wd C e P Q m N R t Z)) (fun _ _ => rfl) ?_
        rw [if_pos (show true = true from rfl), if_neg hf] at w
        have k1 := dk_rm e he 1 i (R.1 i)
        refine eR.ifc rfl false rfl ?_
        refine eR.step 6 (F' := (91, [(0, .ref 23), (1, .int (nI 1)), (2, .int (nI (c))), (3, .int (nI (i)))], [.int (nI (i)), .ref 28, .int (nI (i)), .int (nI 1), .ref 23])) (h' := (Wd C e P Q m N R t Z)) (fun _ _ => rfl) ?_
        refine eR.ld28 rfl (by omega) ?_
        refine eR.call (k' := 107) (as := [.ref 23, .int (nI 1), .int (nI (i)), .int (nI (bi (R.1 (i))))]) (rest := []) (v := none) (h1 := (Wd C (rm e 1 i (R.1 i)) P Q m N R t Z)) rfl rfl rfl rfl (eg (Nat.le_of_ble_eq_true rfl) (show 24 ≤ lo by omega) (Nat.le_of_ble_eq_true rfl)) (m_mark he (by omega) (by omega)) ?_
        refine eR.step 3 (F' := (100, [(0, .ref 23), (1, .int (nI 1)), (2, .int (nI (c))), (3, .int (nI (i)))], [.int (nI (i)), .ref 24])) (h' := (Wd C (rm e 1 i (R.1 i)) P Q m N R t Z)) (fun _ _ => rfl) ?_
        refine eR.call (k' := 111) (as := [.int (nI (i))]) (rest := [.ref 24]) (v := some (.int (nI (32 + (16 * i))))) (h1 := (Wd C (rm e 1 i (R.1 i)) P Q m N R t Z)) rfl rfl rfl rfl (eg (Nat.le_of_ble_eq_true rfl) (show 20 ≤ lo by omega) (Nat.le_of_ble_eq_true rfl)) (m_at (by omega)) ?_
        refine eR.step 1 (F' := (104, [(0, .ref 23), (1, .int (nI 1)), (2, .int (nI (c))), (3, .int (nI (i)))], [.int (nI 1), .int (nI (32 + (16 * i))), .ref 24])) (h' := (Wd C (rm e 1 i (R.1 i)) P Q m N R t Z)) (fun _ _ => rfl) ?_
        refine eR.nadd rfl ?_
        refine eR.step 3 (F' := (110, [(0, .ref 23), (1, .int (nI 1)), (2, .int (nI (c))), (3, .int (nI (i)))], [.int (nI (i)), .ref 28, .int (nI ((32 + (16 * i)) + 1)), .ref 24])) (h' := (Wd C (rm e 1 i (R.1 i)) P Q m N R t Z)) (fun _ _ => rfl) ?_
        refine eR.ld28 rfl (by omega) ?_
        refine eR.ifc rfl true (mb_ef hf) ?_
        refine eR.step 3 (F' := (128, [(0, .ref 23), (1, .int (nI 1)), (2, .int (nI (c))), (3, .int (nI (i)))], [.int (nI (i)), .ref 24, .int (nI ((32 + (16 * i)) + 1)), .ref 24])) (h' := (Wd C (rm e 1 i (R.1 i)) P Q m N R t Z)) (fun _ _ => rfl) ?_
        refine eR.call (k' := 111) (as := [.int (nI (i))]) (rest := [.ref 24, .int (nI ((32 + (16 * i)) + 1)), .ref 24]) (v := some (.int (nI (32 + (16 * i))))) (h1 := (Wd C (rm e 1 i (R.1 i)) P Q m N R t Z)) rfl rfl rfl rfl (eg (Nat.le_of_ble_eq_true rfl) (show 20 ≤ lo by omega) (Nat.le_of_ble_eq_true rfl)) (m_at (by omega)) ?_
        refine eR.step 1 (F' := (132, [(0, .ref 23), (1, .int (nI 1)), (2, .int (nI (c))), (3, .int (nI (i)))], [.int (nI 1), .int (nI (32 + (16 * i))), .ref 24, .int (nI ((32 + (16 * i)) + 1)), .ref 24])) (h' := (Wd C (rm e 1 i (R.1 i)) P Q m N R t Z)) (fun _ _ => rfl) ?_
        refine eR.nadd rfl ?_
        refine eR.ld24 rfl (by omega) ?_
        refine eR.st24 rfl (by omega) (k1.1 _) ?_
        rw [dp_self k1]
        refine eR.step 1 (F' := (138, [(0, .ref 23), (1, .int (nI 1)), (2, .int (nI (c))), (3, .int (nI (i) + 1))], [])) (h' := (Wd C (rm e 1 i (R.1 i)) P Q m N R t Z)) (fun _ _ => rfl) ?_
        rw [show nI (i) + 1 = nI (i + 1) from nI_add (i) 1]
        refine eR.step 1 (F' := (13, [(0, .ref 23), (1, .int (nI 1)), (2, .int (nI (c))), (3, .int (nI (i + 1)))], [])) (h' := (Wd C (rm e 1 i (R.1 i)) P Q m N R t Z)) (fun _ _ => rfl) ?_
        exact l_c1_1 hlo hlf hl2 q (i + 1) _ _ k1 (by omega) (by omega) w
    · rw [if_neg hb] at w
      refine eR.icmp rfl false (mc_bn hb) ?_
      refine eR.step 2 (F' := (36, [(0, .ref 23), (1, .int (nI 1)), (2, .int (nI (c))), (3, .int (nI (i)))], [.int (nI 1), .int (nI (c))])) (h' := (Wd C e P Q m N R t Z)) (fun _ _ => rfl) ?_
      refine eR.nadd rfl ?_
      refine eR.step 5 (F' := (47, [(0, .ref 23), (1, .int (nI 1)), (2, .int (nI (c + 1))), (3, .int (nI (i)))], [.int (nI (i)), .ref 28])) (h' := (Wd C e P Q m N R t Z)) (fun _ _ => rfl) ?_
      refine eR.ld28 rfl (by omega) ?_
      by_cases hf : R.1 i = true
      · refine eR.ifc rfl false (mb_et hf) ?_
        refine eR.step 3 (F' := (56, [(0, .ref 23), (1, .int (nI 1)), (2, .int (nI (c + 1))), (3, .int (nI (i)))], [.int (nI (i)), .ref 24])) (h' := (Wd C e P Q m N R t Z)) (fun _ _ => rfl) ?_
        refine eR.call (k' := 111) (as := [.int (nI (i))]) (rest := [.ref 24]) (v := some (.int (nI (32 + (16 * i))))) (h1 := (Wd C e P Q m N R t Z)) rfl rfl rfl rfl (eg (Nat.le_of_ble_eq_true rfl) (show 20 ≤ lo by omega) (Nat.le_of_ble_eq_true rfl)) (m_at (by omega)) ?_
        refine eR.step 1 (F' := (60, [(0, .ref 23), (1, .int (nI 1)), (2, .int (nI (c + 1))), (3, .int (nI (i)))], [.int (nI 1), .int (nI (32 + (16 * i))), .ref 24])) (h' := (Wd C e P Q m N R t Z)) (fun _ _ => rfl) ?_
        refine eR.nadd rfl ?_
        refine eR.ld24 rfl (by omega) ?_
        refine eR.step 3 (F' := (67, [(0, .ref 23), (1, .int (nI 1)), (2, .int (nI (c + 1))), (3, .int (nI (i)))], [.int (nI (i)), .ref 29, .int (nI (e ((32 + (16 * i)) + 1)))])) (h' := (Wd C e P Q m N R t Z)) (fun _ _ => rfl) ?_
        refine eR.ld29 rfl (by omega) ?_
        by_cases hl : e (32 + (16 * i) + 1) = R.2.2.1 i
        · rw [if_neg (show ¬ (R.1 i = true ∧ e (32 + (16 * i) + 1) ≠ R.2.2.1 i) from fun z => z.2 hl)] at w
          refine eR.icmp rfl true ((nc_eq (by omega) (by omega)).trans (decide_eq_true (by omega))) ?_
          refine eR.step 3 (F' := (80, [(0, .ref 23), (1, .int (nI 1)), (2, .int (nI (c + 1))), (3, .int (nI (i)))], [.int (nI 1)])) (h' := (Wd C e P Q m N R t Z)) (fun _ _ => rfl) ?_
          rw [if_pos (show true = true from rfl), if_pos hf] at w
          have h8 := hlf i h0 (by omega) hf
          refine eR.ifc rfl false rfl ?_
          refine eR.step 6 (F' := (91, [(0, .ref 23), (1, .int (nI 1)), (2, .int (nI (c + 1))), (3, .int (nI (i)))], [.int (nI (i)), .ref 28, .int (nI (i)), .int (nI 1), .ref 23])) (h' := (Wd C e P Q m N R t Z)) (fun _ _ => rfl) ?_
          refine eR.ld28 rfl (by omega) ?_
          refine eR.call (k' := 107) (as := [.ref 23, .int (nI 1), .int (nI (i)), .int (nI (bi (R.1 (i))))]) (rest := []) (v := none) (h1 := (Wd C (rm e 1 i (R.1 i)) P Q m N R t Z)) rfl rfl rfl rfl (eg (Nat.le_of_ble_eq_true rfl) (show 24 ≤ lo by omega) (Nat.le_of_ble_eq_true rfl)) (m_mark he (by omega) (by omega)) ?_
          refine eR.step 3 (F' := (100, [(0, .ref 23), (1, .int (nI 1)), (2, .int (nI (c + 1))), (3, .int (nI (i)))], [.int (nI (i)), .ref 24])) (h' := (Wd C (rm e 1 i (R.1 i)) P Q m N R t Z)) (fun _ _ => rfl) ?_
          refine eR.call (k' := 111) (as := [.int (nI (i))]) (rest := [.ref 24]) (v := some (.int (nI (32 + (16 * i))))) (h1 := (Wd C (rm e 1 i (R.1 i)) P Q m N R t Z)) rfl rfl rfl rfl (eg (Nat.le_of_ble_eq_true rfl) (show 20 ≤ lo by omega) (Nat.le_of_ble_eq_true rfl)) (m_at (by omega)) ?_
          refine eR.step 1 (F' := (104, [(0, .ref 23), (1, .int (nI 1)), (2, .int (nI (c + 1))), (3, .int (nI (i)))], [.int (nI 1), .int (nI (32 + (16 * i))), .ref 24])) (h' := (Wd C (rm e 1 i (R.1 i)) P Q m N R t Z)) (fun _ _ => rfl) ?_
          refine eR.nadd rfl ?_
          refine eR.step 3 (F' := (110, [(0, .ref 23), (1, .int (nI 1)), (2, .int (nI (c + 1))), (3, .int (nI (i)))], [.int (nI (i)), .ref 28, .int (nI ((32 + (16 * i)) + 1)), .ref 24])) (h' := (Wd C (rm e 1 i (R.1 i)) P Q m N R t Z)) (fun _ _ => rfl) ?_
          refine eR.ld28 rfl (by omega) ?_
          refine eR.ifc rfl false (mb_et hf) ?_
          refine eR.step 3 (F' := (119, [(0, .ref 23), (1, .int (nI 1)), (2, .int (nI (c + 1))), (3, .int (nI (i)))], [.int (nI (i)), .ref 29, .int (nI ((32 + (16 * i)) + 1)), .ref 24])) (h' := (Wd C (rm e 1 i (R.1 i)) P Q m N R t Z)) (fun _ _ => rfl) ?_
          refine eR.ld29 rfl (by omega) ?_
          refine eR.step 1 (F' := (134, [(0, .ref 23), (1, .int (nI 1)), (2, .int (nI (c + 1))), (3, .int (nI (i)))], [.int (nI (R.2.2.1 (i))), .int (nI ((32 + (16 * i)) + 1)), .ref 24])) (h' := (Wd C (rm e 1 i (R.1 i)) P Q m N R t Z)) (fun _ _ => rfl) ?_
          refine eR.st24 rfl (by omega) (by omega) ?_
          refine eR.step 1 (F' := (138, [(0, .ref 23), (1, .int (nI 1)), (2, .int (nI (c + 1))), (3, .int (nI (i) + 1))], [])) (h' := (Wd C (dp (rm e 1 i (R.1 i)) ((32 + (16 * i)) + 1) (R.2.2.1 (i))) P Q m N R t Z)) (fun _ _ => rfl) ?_
          rw [show nI (i) + 1 = nI (i + 1) from nI_add (i) 1]
          refine eR.step 1 (F' := (13, [(0, .ref 23), (1, .int (nI 1)), (2, .int (nI (c + 1))), (3, .int (nI (i + 1)))], [])) (h' := (Wd C (dp (rm e 1 i (R.1 i)) ((32 + (16 * i)) + 1) (R.2.2.1 (i))) P Q m N R t Z)) (fun _ _ => rfl) ?_
          exact l_c1_1 hlo hlf hl2 q (i + 1) _ _ (dk_dp _ (dk_rm _ he _ _ _) _ _) (by omega) (by omega) w
        · rw [if_pos (show R.1 i = true ∧ e (32 + (16 * i) + 1) ≠ R.2.2.1 i from ⟨hf, hl⟩)] at w
          refine eR.icmp rfl false ((nc_eq (by omega) (by omega)).trans (decide_eq_false (by omega))) ?_
          refine eR.step 2 (F' := (73, [(0, .ref 23), (1, .int (nI 1)), (2, .int (nI (c + 1))), (3, .int (nI (i)))], [.int (nI 1), .int (nI (c + 1))])) (h' := (Wd C e P Q m N R t Z)) (fun _ _ => rfl) ?_
          refine eR.nadd rfl ?_
          refine eR.step 3 (F' := (80, [(0, .ref 23), (1, .int (nI 1)), (2, .int (nI ((c + 1) + 1))), (3, .int (nI (i)))], [.int (nI 1)])) (h' := (Wd C e P Q m N R t Z)) (fun _ _ => rfl) ?_
          rw [if_pos (show true = true from rfl), if_pos hf] at w
          have h8 := hlf i h0 (by omega) hf
          refine eR.ifc rfl false rfl ?_
          refine eR.step 6 (F' := (91, [(0, .ref 23), (1, .int (nI 1)), (2, .int (nI ((c + 1) + 1))), (3, .int (nI (i)))], [.int (nI (i)), .ref 28, .int (nI (i)), .int (nI 1), .ref 23])) (h' := (Wd C e P Q m N R t Z)) (fun _ _ => rfl) ?_
          refine eR.ld28 rfl (by omega) ?_
          refine eR.call (k' := 107) (as := [.ref 23, .int (nI 1), .int (nI (i)), .int (nI (bi (R.1 (i))))]) (rest := []) (v := none) (h1 := (Wd C (rm e 1 i (R.1 i)) P Q m N R t Z)) rfl rfl rfl rfl (eg (Nat.le_of_ble_eq_true rfl) (show 24 ≤ lo by omega) (Nat.le_of_ble_eq_true rfl)) (m_mark he (by omega) (by omega)) ?_
          refine eR.step 3 (F' := (100, [(0, .ref 23), (1, .int (nI 1)), (2, .int (nI ((c + 1) + 1))), (3, .int (nI (i)))], [.int (nI (i)), .ref 24])) (h' := (Wd C (rm e 1 i (R.1 i)) P Q m N R t Z)) (fun _ _ => rfl) ?_
          refine eR.call (k' := 111) (as := [.int (nI (i))]) (rest := [.ref 24]) (v := some (.int (nI (32 + (16 * i))))) (h1 := (Wd C (rm e 1 i (R.1 i)) P Q m N R t Z)) rfl rfl rfl rfl (eg (Nat.le_of_ble_eq_true rfl) (show 20 ≤ lo by omega) (Nat.le_of_ble_eq_true rfl)) (m_at (by omega)) ?_
          refine eR.step 1 (F' := (104, [(0, .ref 23), (1, .int (nI 1)), (2, .int (nI ((c + 1) + 1))), (3, .int (nI (i)))], [.int (nI 1), .int (nI (32 + (16 * i))), .ref 24])) (h' := (Wd C (rm e 1 i (R.1 i)) P Q m N R t Z)) (fun _ _ => rfl) ?_
          refine eR.nadd rfl ?_
          refine eR.step 3 (F' := (110, [(0, .ref 23), (1, .int (nI 1)), (2, .int (nI ((c + 1) + 1))), (3, .int (nI (i)))], [.int (nI (i)), .ref 28, .int (nI ((32 + (16 * i)) + 1)), .ref 24])) (h' := (Wd C (rm e 1 i (R.1 i)) P Q m N R t Z)) (fun _ _ => rfl) ?_
          refine eR.ld28 rfl (by omega) ?_
          refine eR.ifc rfl false (mb_et hf) ?_
          refine eR.step 3 (F' := (119, [(0, .ref 23), (1, .int (nI 1)), (2, .int (nI ((c + 1) + 1))), (3, .int (nI (i)))], [.int (nI (i)), .ref 29, .int (nI ((32 + (16 * i)) + 1)), .ref 24])) (h' := (Wd C (rm e 1 i (R.1 i)) P Q m N R t Z)) (fun _ _ => rfl) ?_
          refine eR.ld29 rfl (by omega) ?_
          refine eR.step 1 (F' := (134, [(0, .ref 23), (1, .int (nI 1)), (2, .int (nI ((c + 1) + 1))), (3, .int (nI (i)))], [.int (nI (R.2.2.1 (i))), .int (nI ((32 + (16 * i)) + 1)), .ref 24])) (h' := (Wd C (rm e 1 i (R.1 i)) P Q m N R t Z)) (fun _ _ => rfl) ?_
          refine eR.st24 rfl (by omega) (by omega) ?_
          refine eR.step 1 (F' := (138, [(0, .ref 23), (1, .int (nI 1)), (2, .int (nI ((c + 1) + 1))), (3, .int (nI (i) + 1))], [])) (h' := (Wd C (dp (rm e 1 i (R.1 i)) ((32 + (16 * i)) + 1) (R.2.2.1 (i))) P Q m N R t Z)) (fun _ _ => rfl) ?_
          rw [show nI (i) + 1 = nI (i + 1) from nI_add (i) 1]
          refine eR.step 1 (F' := (13, [(0, .ref 23), (1, .int (nI 1)), (2, .int (nI ((c + 1) + 1))), (3, .int (nI (i + 1)))], [])) (h' := (Wd C (dp (rm e 1 i (R.1 i)) ((32 + (16 * i)) + 1) (R.2.2.1 (i))) P Q m N R t Z)) (fun _ _ => rfl) ?_
          exact l_c1_1 hlo hlf hl2 q (i + 1) _ _ (dk_dp _ (dk_rm _ he _ _ _) _ _) (by omega) (by omega) w
      · rw [if_neg (show ¬ (R.1 i = true ∧ e (32 + (16 * i) + 1) ≠ R.2.2.1 i) from fun z => hf z.1)] at w
        refine eR.ifc rfl true (mb_ef hf) ?_
        refine eR.step 3 (F' := (80, [(0, .ref 23), (1, .int (nI 1)), (2, .int (nI (c + 1))), (3, .int (nI (i)))], [.int (nI 1)])) (h' := (Wd C e P Q m N R t Z)) (fun _ _ => rfl) ?_
        rw [if_pos (show true = true from rfl), if_neg hf] at w
        have k1 := dk_rm e he 1 i (R.1 i)
        refine eR.ifc rfl false rfl ?_
        refine eR.step 6 (F' := (91, [(0, .ref 23), (1, .int (nI 1)), (2, .int (nI (c + 1))), (3, .int (nI (i)))], [.int (nI (i)), .ref 28, .int (nI (i)), .int (nI 1), .ref 23])) (h' := (Wd C e P Q m N R t Z)) (fun _ _ => rfl) ?_
        refine eR.ld28 rfl (by omega) ?_
        refine eR.call (k' := 107) (as := [.ref 23, .int (nI 1), .int (nI (i)), .int (nI (bi (R.1 (i))))]) (rest := []) (v := none) (h1 := (Wd C (rm e 1 i (R.1 i)) P Q m N R t Z)) rfl rfl rfl rfl (eg (Nat.le_of_ble_eq_true rfl) (show 24 ≤ lo by omega) (Nat.le_of_ble_eq_true rfl)) (m_mark he (by omega) (by omega)) ?_
        refine eR.step 3 (F' := (100, [(0, .ref 23), (1, .int (nI 1)), (2, .int (nI (c + 1))), (3, .int (nI (i)))], [.int (nI (i)), .ref 24])) (h' := (Wd C (rm e 1 i (R.1 i)) P Q m N R t Z)) (fun _ _ => rfl) ?_
        refine eR.call (k' := 111) (as := [.int (nI (i))]) (rest := [.ref 24]) (v := some (.int (nI (32 + (16 * i))))) (h1 := (Wd C (rm e 1 i (R.1 i)) P Q m N R t Z)) rfl rfl rfl rfl (eg (Nat.le_of_ble_eq_true rfl) (show 20 ≤ lo by omega) (Nat.le_of_ble_eq_true rfl)) (m_at (by omega)) ?_
        refine eR.step 1 (F' := (104, [(0, .ref 23), (1, .int (nI 1)), (2, .int (nI (c + 1))), (3, .int (nI (i)))], [.int (nI 1), .int (nI (32 + (16 * i))), .ref 24])) (h' := (Wd C (rm e 1 i (R.1 i)) P Q m N R t Z)) (fun _ _ => rfl) ?_
        refine eR.nadd rfl ?_
        refine eR.step 3 (F' := (110, [(0, .ref 23), (1, .int (nI 1)), (2, .int (nI (c + 1))), (3, .int (nI (i)))], [.int (nI (i)), .ref 28, .int (nI ((32 + (16 * i)) + 1)), .ref 24])) (h' := (Wd C (rm e 1 i (R.1 i)) P Q m N R t Z)) (fun _ _ => rfl) ?_
        refine eR.ld28 rfl (by omega) ?_
        refine eR.ifc rfl true (mb_ef hf) ?_
        refine eR.step 3 (F' := (128, [(0, .ref 23), (1, .int (nI 1)), (2, .int (nI (c + 1))), (3, .int (nI (i)))], [.int (nI (i)), .ref 24, .int (nI ((32 + (16 * i)) + 1)), .ref 24])) (h' := (Wd C (rm e 1 i (R.1 i)) P Q m N R t Z)) (fun _ _ => rfl) ?_
        refine eR.call (k' := 111) (as := [.int (nI (i))]) (rest := [.ref 24, .int (nI ((32 + (16 * i)) + 1)), .ref 24]) (v := some (.int (nI (32 + (16 * i))))) (h1 := (Wd C (rm e 1 i (R.1 i)) P Q m N R t Z)) rfl rfl rfl rfl (eg (Nat.le_of_ble_eq_true rfl) (show 20 ≤ lo by omega) (Nat.le_of_ble_eq_true rfl)) (m_at (by omega)) ?_
        refine eR.step 1 (F' := (132, [(0, .ref 23), (1, .int (nI 1)), (2, .int (nI (c + 1))), (3, .int (nI (i)))], [.int (nI 1), .int (nI (32 + (16 * i))), .ref 24, .int (nI ((32 + (16 * i)) + 1)), .ref 24])) (h' := (Wd C (rm e 1 i (R.1 i)) P Q m N R t Z)) (fun _ _ => rfl) ?_
        refine eR.nadd rfl ?_
        refine eR.ld24 rfl (by omega) ?_
        refine eR.st24 rfl (by omega) (k1.1 _) ?_
        rw [dp_self k1]
        refine eR.step 1 (F' := (138, [(0, .ref 23), (1, .int (nI 1)), (2, .int (nI (c + 1))), (3, .int (nI (i) + 1))], [])) (h' := (Wd C (rm e 1 i (R.1 i)) P Q m N R t Z)) (fun _ _ => rfl) ?_
        rw [show nI (i) + 1 = nI (i + 1) from nI_add (i) 1]
        refine eR.step 1 (F' := (13, [(0, .ref 23), (1, .int (nI 1)), (2, .int (nI (c + 1))), (3, .int (nI (i + 1)))], [])) (h' := (Wd C (rm e 1 i (R.1 i)) P Q m N R t Z)) (fun _ _ => rfl) ?_
        exact l_c1_1 hlo hlf hl2 q (i + 1) _ _ k1 (by omega) (by omega) w
theorem l_c2_1 {cm sm fr lo : Nat} {C : gC} {P Q : gT} {m : Nat} {N : Nat → Nat} {R : gS} {t : Nat} {Z : mj_H} (hlo : 113 ≤ lo) {r : mj_O × mj_H} : ∀ (q i c : Nat) (e : Nat → Nat), dk e → i + q = 64 → eR mm_P cm sm (fr + 2) lo 159 (195, [(0, .ref 23), (1, .int (nI 1)), (2, .int (nI (rJc R.2.1 true e c i q))), (3, .int (nI 64))], []) (Wd C (rJ R.2.1 true e i q) P Q m N R t Z) r → eR mm_P cm sm (fr + 2) lo 159 (144, [(0, .ref 23), (1, .int (nI 1)), (2, .int (nI (c))), (3, .int (nI (i)))], []) (Wd C e P Q m N R t Z) r
  | 0, i, c, e, he, h1, w => by
    have e0 : i = 64 := by omega
    subst e0
    refine eR.step 2 (F' := (147, [(0, .ref 23), (1, .int (nI 1)), (2, .int (nI (c))), (3, .int (nI 64))], [.int (nI 64), .int (nI 64)])) (h' := (Wd C e P Q m N R t Z)) (fun _ _ => rfl) ?_
    refine eR.icmp rfl true ((nc_ge (by omega) (by omega)).trans (decide_eq_true (by omega))) ?_
    exact w
  | q + 1, i, c, e, he, h1, w => by
    rw [rJ, rJc] at w
    refine eR.step 2 (F' := (147, [(0, .ref 23), (1, .int (nI 1)), (2, .int (nI (c))), (3, .int (nI (i)))], [.int (nI 64), .int (nI (i))])) (h' := (Wd C e P Q m N R t Z)) (fun _ _ => rfl) ?_
    refine eR.icmp rfl false ((nc_ge (by omega) (by omega)).trans (decide_eq_false (by omega))) ?_
    refine eR.step 3 (F' := (153, [(0, .ref 23), (1, .int (nI 1)), (2, .int (nI (c))), (3, .int (nI (i)))], [.int (nI (i)), .int (nI 3), .ref 23])) (h' := (Wd C e P Q m N R t Z)) (fun _ _ => rfl) ?_
    refine eR.call (k' := 110) (as := [.ref 23, .int (nI 3), .int (nI (i))]) (rest := []) (v := some (.int (nI (bi (bt e 3 i))))) (h1 := (Wd C e P Q m N R t Z)) rfl rfl rfl rfl (eg (Nat.le_of_ble_eq_true rfl) (show 22 ≤ lo by omega) (Nat.le_of_ble_eq_true rfl)) (m_is he (by omega) (by omega)) ?_
    refine eR.step 3 (F' := (161, [(0, .ref 23), (1, .int (nI 1)), (2, .int (nI (c))), (3, .int (nI (i)))], [.int (nI (i)), .ref 30, .int (nI (bi (bt e 3 i)))])) (h' := (Wd C e P Q m N R t Z)) (fun _ _ => rfl) ?_
    refine eR.ld30 rfl (by omega) ?_
    by_cases hb : bt e 3 i = R.2.1 i
    · rw [if_pos hb] at w
      refine eR.icmp rfl true (mc_bb hb) ?_
      refine eR.step 3 (F' := (174, [(0, .ref 23), (1, .int (nI 1)), (2, .int (nI (c))), (3, .int (nI (i)))], [.int (nI 1)])) (h' := (Wd C e P Q m N R t Z)) (fun _ _ => rfl) ?_
      rw [if_pos (show true = true from rfl)] at w
      refine eR.ifc rfl false rfl ?_
      refine eR.step 6 (F' := (185, [(0, .ref 23), (1, .int (nI 1)), (2, .int (nI (c))), (3, .int (nI (i)))], [.int (nI (i)), .ref 30, .int (nI (i)), .int (nI 3), .ref 23])) (h' := (Wd C e P Q m N R t Z)) (fun _ _ => rfl) ?_
      refine eR.ld30 rfl (by omega) ?_
      refine eR.call (k' := 107) (as := [.ref 23, .int (nI 3), .int (nI (i)), .int (nI (bi (R.2.1 (i))))]) (rest := []) (v := none) (h1 := (Wd C (rm e 3 i (R.2.1 i)) P Q m N R t Z)) rfl rfl rfl rfl (eg (Nat.le_of_ble_eq_true rfl) (show 24 ≤ lo by omega) (Nat.le_of_ble_eq_true rfl)) (m_mark he (by omega) (by omega)) ?_
      refine eR.step 1 (F' := (192, [(0, .ref 23), (1, .int (nI 1)), (2, .int (nI (c))), (3, .int (nI (i) + 1))], [])) (h' := (Wd C (rm e 3 i (R.2.1 i)) P Q m N R t Z)) (fun _ _ => rfl) ?_
      rw [show nI (i) + 1 = nI (i + 1) from nI_add (i) 1]
      refine eR.step 1 (F' := (144, [(0, .ref 23), (1, .int (nI 1)), (2, .int (nI (c))), (3, .int (nI (i + 1)))], [])) (h' := (Wd C (rm e 3 i (R.2.1 i)) P Q m N R t Z)) (fun _ _ => rfl) ?_
      exact l_c2_1 hlo q (i + 1) _ _ (dk_rm _ he _ _ _) (by omega) w
    · rw [if_neg hb] at w
      refine eR.icmp rfl false (mc_bn hb) ?_
      refine eR.step 2 (F' := (167, [(0, .ref 23), (1, .int (nI 1)), (2, .int (nI (c))), (3, .int (nI (i)))], [.int (nI 1), .int (nI (c))])) (h' := (Wd C e P Q m N R t Z)) (fun _ _ => rfl) ?_
      refine eR.nadd rfl ?_
      refine eR.step 3 (F' := (174, [(0, .ref 23), (1, .int (nI 1)), (2, .int (nI (c + 1))), (3, .int (nI (i)))], [.int (nI 1)])) (h' := (Wd C e P Q m N R t Z)) (fun _ _ => rfl) ?_
      rw [if_pos (show true = true from rfl)] at w
      refine eR.ifc rfl false rfl ?_
      refine eR.step 6 (F' := (185, [(0, .ref 23), (1, .int (nI 1)), (2, .int (nI (c + 1))), (3, .int (nI (i)))], [.int (nI (i)), .ref 30, .int (nI (i)), .int (nI 3), .ref 23])) (h' := (Wd C e P Q m N R t Z)) (fun _ _ => rfl) ?_
      refine eR.ld30 rfl (by omega) ?_
      refine eR.call (k' := 107) (as := [.ref 23, .int (nI 3), .int (nI (i)), .int (nI (bi (R.2.1 (i))))]) (rest := []) (v := none) (h1 := (Wd C (rm e 3 i (R.2.1 i)) P Q m N R t Z)) rfl rfl rfl rfl (eg (Nat.le_of_ble_eq_true rfl) (show 24 ≤ lo by omega) (Nat.le_of_ble_eq_true rfl)) (m_mark he (by omega) (by omega)) ?_
      refine eR.step 1 (F' := (192, [(0, .ref 23), (1, .int (nI 1)), (2, .int (nI (c + 1))), (3, .int (nI (i) + 1))], [])) (h' := (Wd C (rm e 3 i (R.2.1 i)) P Q m N R t Z)) (fun _ _ => rfl) ?_
      rw [show nI (i) + 1 = nI (i + 1) from nI_add (i) 1]
      refine eR.step 1 (F' := (144, [(0, .ref 23), (1, .int (nI 1)), (2, .int (nI (c + 1))), (3, .int (nI (i + 1)))], [])) (h' := (Wd C (rm e 3 i (R.2.1 i)) P Q m N R t Z)) (fun _ _ => rfl) ?_
      exact l_c2_1 hlo q (i + 1) _ _ (dk_rm _ he _ _ _) (by omega) w
theorem m_check1 {cm sm fr lo : Nat} {C : gC} {e : Nat → Nat} {P Q : gT} {m : Nat} {N : Nat → Nat} {R : gS} {t : Nat} {Z : mj_H} (hlo : 113 ≤ lo) (V : qV e) (hlf : ∀ i, 1 ≤ i → i < 16 → (tA e R).1 i = true → (tA e R).2.2.1 i < 256) (hl2 : ∀ i, (tA e R).2.2.1 i < 2 ^ 20) : eE mm_P cm sm (fr + 7) lo 159 [.ref 23, .int (nI 1)] (Wd C e P Q m N R t Z) (.inl (some (.int (nI (rKv e (tA e R) true)))), (Wd C (rK e (tA e R) true) P Q m N (tA e R) 0 Z)) := by
  refine eE.of ?_
  refine eR.step 2 (F' := (2, [(0, .ref 23), (1, .int (nI 1))], [.int (nI 0), .ref 23])) (h' := (Wd C e P Q m N R t Z)) (fun _ _ => rfl) ?_
  refine eR.sim rfl (F := (5, [(0, .ref 23), (1, .int (nI 1))], [])) (h' := (Wd C e P Q m N R 0 Z)) (by rfl) ?_
  refine eR.step 1 (F' := (6, [(0, .ref 23), (1, .int (nI 1))], [.ref 23])) (h' := (Wd C e P Q m N R 0 Z)) (fun _ _ => rfl) ?_
  refine eR.call (k' := 160) (as := [.ref 23]) (rest := []) (v := none) (h1 := (Wd C e P Q m N (tA e R) 0 Z)) rfl rfl rfl rfl (eg (Nat.le_of_ble_eq_true rfl) (show 25 ≤ lo by omega) (Nat.le_of_ble_eq_true rfl)) (m_walk (show 88 ≤ lo - 25 by omega) V) ?_
  refine eR.step 4 (F' := (13, [(0, .ref 23), (1, .int (nI 1)), (2, .int (nI 0)), (3, .int (nI 1))], [])) (h' := (Wd C e P Q m N (tA e R) 0 Z)) (fun _ _ => rfl) ?_
  have k1 : dk (rI (tA e R).1 (tA e R).2.2.1 true e 1 15) := rI_dk _ _ _ 15 e 1 V.B.dk
  have k2 : dk (rJ (tA e R).2.1 true (rI (tA e R).1 (tA e R).2.2.1 true e 1 15) 9 55) := rJ_dk _ _ 55 _ 9 k1
  refine l_c1_1 hlo hlf hl2 15 1 0 e V.B.dk (by omega) (by omega) ?_
  refine eR.step 2 (F' := (144, [(0, .ref 23), (1, .int (nI 1)), (2, .int (nI (rIc (tA e R).1 (tA e R).2.2.1 true e 0 1 15))), (3, .int (nI 9))], [])) (h' := (Wd C (rI (tA e R).1 (tA e R).2.2.1 true e 1 15) P Q m N (tA e R) 0 Z)) (fun _ _ => rfl) ?_
  refine l_c2_1 hlo 55 9 _ _ k1 (by omega) ?_
  show eR _ _ _ _ _ _ (195, [(0, .ref 23), (1, .int (nI 1)), (2, .int (nI (rKv e (tA e R) true))), (3, .int (nI 64))], []) (Wd C (rJ (tA e R).2.1 true (rI (tA e R).1 (tA e R).2.2.1 true e 1 15) 9 55) P Q m N (tA e R) 0 Z) _
  refine eR.step 4 (F' := (202, [(0, .ref 23), (1, .int (nI 1)), (2, .int (nI (rKv e (tA e R) true))), (3, .int (nI 64))], [.int (nI 1), .int (nI 11), .ref 24])) (h' := (Wd C (rJ (tA e R).2.1 true (rI (tA e R).1 (tA e R).2.2.1 true e 1 15) 9 55) P Q m N (tA e R) 0 Z)) (fun _ _ => rfl) ?_
  refine eR.ifc rfl false rfl ?_
  refine eR.step 2 (F' := (216, [(0, .ref 23), (1, .int (nI 1)), (2, .int (nI (rKv e (tA e R) true))), (3, .int (nI 64))], [.int (nI 1), .int (nI 11), .ref 24])) (h' := (Wd C (rJ (tA e R).2.1 true (rI (tA e R).1 (tA e R).2.2.1 true e 1 15) 9 55) P Q m N (tA e R) 0 Z)) (fun _ _ => rfl) ?_
  refine eR.st24 rfl (by omega) (by decide) ?_
  rw [show dp (rJ (tA e R).2.1 true (rI (tA e R).1 (tA e R).2.2.1 true e 1 15) 9 55) 11 1 = rK e (tA e R) true from (if_pos rfl).symm]
  refine eR.step 1 (F' := (218, [(0, .ref 23), (1, .int (nI 1)), (2, .int (nI (rKv e (tA e R) true))), (3, .int (nI 64))], [.int (nI (rKv e (tA e R) true))])) (h' := (Wd C (rK e (tA e R) true) P Q m N (tA e R) 0 Z)) (fun _ _ => rfl) ?_
  exact eR.ret rfl rfl rfl

