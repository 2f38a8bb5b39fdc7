theorem mb_nt {b : Bool} (h : b = true) : mj_cmp .ne (nI (bi b)) 0 = true := by rw [h]; rfl
theorem mb_nf {b : Bool} (h : ¬ b = true) : mj_cmp .ne (nI (bi b)) 0 = false := by rw [Bool.eq_false_iff.mpr h]; rfl
theorem mb_et {b : Bool} (h : b = true) : mj_cmp .eq (nI (bi b)) 0 = false := by rw [h]; rfl
theorem mb_ef {b : Bool} (h : ¬ b = true) : mj_cmp .eq (nI (bi b)) 0 = true := by rw [Bool.eq_false_iff.mpr h]; rfl
theorem mb_n1t {b : Bool} (h : b = true) : mj_cmp .ne (nI (bi b)) (nI 1) = false := by rw [h]; rfl
theorem mb_n1f {b : Bool} (h : ¬ b = true) : mj_cmp .ne (nI (bi b)) (nI 1) = true := by rw [Bool.eq_false_iff.mpr h]; rfl
theorem m_at {cm sm fr lo : Nat} {C : gC} {e : Nat → Nat} {P Q : gT} {m : Nat} {N : Nat → Nat} {R : gS} {t : Nat} {Z : mj_H} {i : Nat} (hi : i < 2 ^ 20) : eE mm_P cm sm (fr + 1) lo 111 [.int (nI (i))] (Wd C e P Q m N R t Z) (.inl (some (.int (nI (32 + (16 * i))))), (Wd C e P Q m N R t Z)) := by
  refine eE.of ?_
  refine eR.step 3 (F' := (5, [(0, .int (nI (i)))], [.int (nI (i)), .int (nI 16), .int (nI 32)])) (h' := (Wd C e P Q m N R t Z)) (fun _ _ => rfl) ?_
  refine eR.nmul rfl ?_
  refine eR.nadd rfl ?_
  exact eR.ret rfl rfl rfl
theorem m_is {cm sm fr lo : Nat} {C : gC} {e : Nat → Nat} {P Q : gT} {m : Nat} {N : Nat → Nat} {R : gS} {t : Nat} {Z : mj_H} (he : dk e) {a i : Nat} (hi : i < 2 ^ 20) (ha : a + i / 8 < 2048) : eE mm_P cm sm (fr + 1) lo 110 [.ref 23, .int (nI (a)), .int (nI (i))] (Wd C e P Q m N R t Z) (.inl (some (.int (nI (bi (bt e a i))))), (Wd C e P Q m N R t Z)) := by
  refine eE.of ?_
  refine eR.step 5 (F' := (8, [(0, .ref 23), (1, .int (nI (a))), (2, .int (nI (i)))], [.int (nI 8), .int (nI (i)), .int (nI (a)), .ref 24])) (h' := (Wd C e P Q m N R t Z)) (fun _ _ => rfl) ?_
  refine eR.ndiv rfl (by omega) (by decide) (by decide) ?_
  refine eR.nadd rfl ?_
  refine eR.ld24 rfl (by omega) ?_
  refine eR.step 2 (F' := (14, [(0, .ref 23), (1, .int (nI (a))), (2, .int (nI (i)))], [.int (nI 8), .int (nI (i)), .int (nI (e (a + (i / 8))))])) (h' := (Wd C e P Q m N R t Z)) (fun _ _ => rfl) ?_
  refine eR.nrem rfl (by omega) (by decide) (by decide) ?_
  refine eR.step 2 (F' := (17, [(0, .ref 23), (1, .int (nI (a))), (2, .int (nI (i)))], [.int (nI 1), .int (nI (e (a + (i / 8))) >>> (nI (i % 8) &&& 31))])) (h' := (Wd C e P Q m N R t Z)) (fun _ _ => rfl) ?_
  refine eR.step 1 (F' := (18, [(0, .ref 23), (1, .int (nI (a))), (2, .int (nI (i)))], [.int ((nI (e (a + (i / 8))) >>> (nI (i % 8) &&& 31)) &&& nI 1)])) (h' := (Wd C e P Q m N R t Z)) (fun _ _ => rfl) ?_
  rw [ib_get _ (he.1 _) _ (by omega)]
  refine eR.step 1 (F' := (19, [(0, .ref 23), (1, .int (nI (a))), (2, .int (nI (i)))], [.int (nI 1), .int (nI (bi ((e (a + (i / 8))).testBit (i % 8))))])) (h' := (Wd C e P Q m N R t Z)) (fun _ _ => rfl) ?_
  by_cases h : bt e a i = true
  · refine eR.icmp rfl false (mb_n1t h) ?_
    rw [bj_t h]
    refine eR.step 2 (F' := (27, [(0, .ref 23), (1, .int (nI (a))), (2, .int (nI (i)))], [.int (nI 1)])) (h' := (Wd C e P Q m N R t Z)) (fun _ _ => rfl) ?_
    exact eR.ret rfl rfl rfl
  · refine eR.icmp rfl true (mb_n1f h) ?_
    rw [bj_f h]
    refine eR.step 1 (F' := (27, [(0, .ref 23), (1, .int (nI (a))), (2, .int (nI (i)))], [.int (nI 0)])) (h' := (Wd C e P Q m N R t Z)) (fun _ _ => rfl) ?_
    exact eR.ret rfl rfl rfl
theorem m_mark1 {cm sm fr lo : Nat} {C : gC} {e : Nat → Nat} {P Q : gT} {m : Nat} {N : Nat → Nat} {R : gS} {t : Nat} {Z : mj_H} (he : dk e) {a i : Nat} (hi : i < 2 ^ 20) (ha : a + i / 8 < 2048) : eE mm_P cm sm (fr + 1) lo 107 [.ref 23, .int (nI (a)), .int (nI (i)), .int (nI 1)] (Wd C e P Q m N R t Z) (.inl (none), (Wd C (rm e a i true) P Q m N R t Z)) := by
  refine eE.of ?_
  refine eR.step 3 (F' := (4, [(0, .ref 23), (1, .int (nI (a))), (2, .int (nI (i))), (3, .int (nI 1))], [.int (nI 8), .int (nI (i)), .int (nI 1)])) (h' := (Wd C e P Q m N R t Z)) (fun _ _ => rfl) ?_
  refine eR.nrem rfl (by omega) (by decide) (by decide) ?_
  refine eR.step 7 (F' := (16, [(0, .ref 23), (1, .int (nI (a))), (2, .int (nI (i))), (3, .int (nI 1)), (4, .int (nI 1 <<< (nI (i % 8) &&& 31)))], [.int (nI 8), .int (nI (i)), .int (nI (a)), .ref 24])) (h' := (Wd C e P Q m N R t Z)) (fun _ _ => rfl) ?_
  refine eR.ndiv rfl (by omega) (by decide) (by decide) ?_
  refine eR.nadd rfl ?_
  refine eR.step 1 (F' := (19, [(0, .ref 23), (1, .int (nI (a))), (2, .int (nI (i))), (3, .int (nI 1)), (4, .int (nI 1 <<< (nI (i % 8) &&& 31)))], [.int (nI 1), .int (nI (a + (i / 8))), .ref 24])) (h' := (Wd C e P Q m N R t Z)) (fun _ _ => rfl) ?_
  refine eR.ifc rfl false rfl ?_
  refine eR.step 5 (F' := (30, [(0, .ref 23), (1, .int (nI (a))), (2, .int (nI (i))), (3, .int (nI 1)), (4, .int (nI 1 <<< (nI (i % 8) &&& 31)))], [.int (nI 8), .int (nI (i)), .int (nI (a)), .ref 24, .int (nI (a + (i / 8))), .ref 24])) (h' := (Wd C e P Q m N R t Z)) (fun _ _ => rfl) ?_
  refine eR.ndiv rfl (by omega) (by decide) (by decide) ?_
  refine eR.nadd rfl ?_
  refine eR.ld24 rfl (by omega) ?_
  refine eR.step 1 (F' := (35, [(0, .ref 23), (1, .int (nI (a))), (2, .int (nI (i))), (3, .int (nI 1)), (4, .int (nI 1 <<< (nI (i % 8) &&& 31)))], [.int (nI 1 <<< (nI (i % 8) &&& 31)), .int (nI (e (a + (i / 8)))), .int (nI (a + (i / 8))), .ref 24])) (h' := (Wd C e P Q m N R t Z)) (fun _ _ => rfl) ?_
  refine eR.step 1 (F' := (36, [(0, .ref 23), (1, .int (nI (a))), (2, .int (nI (i))), (3, .int (nI 1)), (4, .int (nI 1 <<< (nI (i % 8) &&& 31)))], [.int (nI (e (a + (i / 8))) ||| (nI 1 <<< (nI (i % 8) &&& 31))), .int (nI (a + (i / 8))), .ref 24])) (h' := (Wd C e P Q m N R t Z)) (fun _ _ => rfl) ?_
  rw [ib_or _ (he.1 _) _ (by omega)]
  refine eR.step 1 (F' := (55, [(0, .ref 23), (1, .int (nI (a))), (2, .int (nI (i))), (3, .int (nI 1)), (4, .int (nI 1 <<< (nI (i % 8) &&& 31)))], [.int (nI (if (e (a + (i / 8))).testBit (i % 8) = true then e (a + (i / 8)) else e (a + (i / 8)) ^^^ 2 ^ (i % 8))), .int (nI (a + (i / 8))), .ref 24])) (h' := (Wd C e P Q m N R t Z)) (fun _ _ => rfl) ?_
  refine eR.st24 rfl (by omega) (by split <;> first | exact he.1 _ | exact xor_lt (he.1 _) (by omega)) ?_
  rw [rm_t he a i]
  exact eR.ret rfl rfl rfl
theorem m_mark0 {cm sm fr lo : Nat} {C : gC} {e : Nat → Nat} {P Q : gT} {m : Nat} {N : Nat → Nat} {R : gS} {t : Nat} {Z : mj_H} (he : dk e) {a i : Nat} (hi : i < 2 ^ 20) (ha : a + i / 8 < 2048) : eE mm_P cm sm (fr + 1) lo 107 [.ref 23, .int (nI (a)), .int (nI (i)), .int (nI 0)] (Wd C e P Q m N R t Z) (.inl (none), (Wd C (rm e a i false) P Q m N R t Z)) := by
  refine eE.of ?_
  refine eR.step 3 (F' := (4, [(0, .ref 23), (1, .int (nI (a))), (2, .int (nI (i))), (3, .int (nI 0))], [.int (nI 8), .int (nI (i)), .int (nI 1)])) (h' := (Wd C e P Q m N R t Z)) (fun _ _ => rfl) ?_
  refine eR.nrem rfl (by omega) (by decide) (by decide) ?_
  refine eR.step 7 (F' := (16, [(0, .ref 23), (1, .int (nI (a))), (2, .int (nI (i))), (3, .int (nI 0)), (4, .int (nI 1 <<< (nI (i % 8) &&& 31)))], [.int (nI 8), .int (nI (i)), .int (nI (a)), .ref 24])) (h' := (Wd C e P Q m N R t Z)) (fun _ _ => rfl) ?_
  refine eR.ndiv rfl (by omega) (by decide) (by decide) ?_
  refine eR.nadd rfl ?_
  refine eR.step 1 (F' := (19, [(0, .ref 23), (1, .int (nI (a))), (2, .int (nI (i))), (3, .int (nI 0)), (4, .int (nI 1 <<< (nI (i % 8) &&& 31)))], [.int (nI 0), .int (nI (a + (i / 8))), .ref 24])) (h' := (Wd C e P Q m N R t Z)) (fun _ _ => rfl) ?_
  refine eR.ifc rfl true rfl ?_
  refine eR.step 5 (F' := (47, [(0, .ref 23), (1, .int (nI (a))), (2, .int (nI (i))), (3, .int (nI 0)), (4, .int (nI 1 <<< (nI (i % 8) &&& 31)))], [.int (nI 8), .int (nI (i)), .int (nI (a)), .ref 24, .int (nI (a + (i / 8))), .ref 24])) (h' := (Wd C e P Q m N R t Z)) (fun _ _ => rfl) ?_
  refine eR.ndiv rfl (by omega) (by decide) (by decide) ?_
  refine eR.nadd rfl ?_
  refine eR.ld24 rfl (by omega) ?_
  refine eR.step 2 (F' := (53, [(0, .ref 23), (1, .int (nI (a))), (2, .int (nI (i))), (3, .int (nI 0)), (4, .int (nI 1 <<< (nI (i % 8) &&& 31)))], [.int ((-1 : Int32)), .int (nI 1 <<< (nI (i % 8) &&& 31)), .int (nI (e (a + (i / 8)))), .int (nI (a + (i / 8))), .ref 24])) (h' := (Wd C e P Q m N R t Z)) (fun _ _ => rfl) ?_
  refine eR.step 2 (F' := (55, [(0, .ref 23), (1, .int (nI (a))), (2, .int (nI (i))), (3, .int (nI 0)), (4, .int (nI 1 <<< (nI (i % 8) &&& 31)))], [.int (nI (e (a + (i / 8))) &&& ((nI 1 <<< (nI (i % 8) &&& 31)) ^^^ -1)), .int (nI (a + (i / 8))), .ref 24])) (h' := (Wd C e P Q m N R t Z)) (fun _ _ => rfl) ?_
  rw [ib_and _ (he.1 _) _ (by omega)]
  refine eR.st24 rfl (by omega) (by split <;> first | exact he.1 _ | exact xor_lt (he.1 _) (by omega)) ?_
  rw [rm_f he a i]
  exact eR.ret rfl rfl rfl
theorem m_mark {cm sm fr lo : Nat} {C : gC} {e : Nat → Nat} {P Q : gT} {m : Nat} {N : Nat → Nat} {R : gS} {t : Nat} {Z : mj_H} (he : dk e) {a i : Nat} {b : Bool} (hi : i < 2 ^ 20) (ha : a + i / 8 < 2048) : eE mm_P cm sm (fr + 1) lo 107 [.ref 23, .int (nI (a)), .int (nI (i)), .int (nI (bi b))] (Wd C e P Q m N R t Z) (.inl (none), (Wd C (rm e a i b) P Q m N R t Z)) := by
  cases b with
  | false => exact m_mark0 he hi ha
  | true => exact m_mark1 he hi ha
theorem l_free {cm sm fr lo : Nat} {C : gC} {e : Nat → Nat} {P Q : gT} {m : Nat} {N : Nat → Nat} {R : gS} {t : Nat} {Z : mj_H} (hlo : 22 ≤ lo) (he : dk e) {a n : Nat} (hn : n < 2 ^ 19) (ha : a + n / 8 < 2048) : ∀ (q i c : Nat), i + q = n → c + q < 2 ^ 19 → eR mm_P cm sm (fr + 1) lo 133 (5, [(0, .ref 23), (1, .int (nI (a))), (2, .int (nI (n))), (3, .int (nI (c))), (4, .int (nI (i)))], []) (Wd C e P Q m N R t Z) (.inl (some (.int (nI (c + cf e a i q)))), (Wd C e P Q m N R t Z))
  | 0, i, c, h1, h2 => by
    show eR _ _ _ _ _ _ _ _ (.inl (some (.int (nI c))), _)
    refine eR.step 2 (F' := (8, [(0, .ref 23), (1, .int (nI (a))), (2, .int (nI (n))), (3, .int (nI (c))), (4, .int (nI (i)))], [.int (nI (n)), .int (nI (i))])) (h' := (Wd C e P Q m N R t Z)) (fun _ _ => rfl) ?_
    refine eR.icmp rfl true ((nc_ge (by omega) (by omega)).trans (decide_eq_true (by omega))) ?_
    refine eR.step 1 (F' := (36, [(0, .ref 23), (1, .int (nI (a))), (2, .int (nI (n))), (3, .int (nI (c))), (4, .int (nI (i)))], [.int (nI (c))])) (h' := (Wd C e P Q m N R t Z)) (fun _ _ => rfl) ?_
    exact eR.ret rfl rfl rfl
  | q + 1, i, c, h1, h2 => by
    refine eR.step 2 (F' := (8, [(0, .ref 23), (1, .int (nI (a))), (2, .int (nI (n))), (3, .int (nI (c))), (4, .int (nI (i)))], [.int (nI (n)), .int (nI (i))])) (h' := (Wd C e P Q m N R t Z)) (fun _ _ => rfl) ?_
    refine eR.icmp rfl false ((nc_ge (by omega) (by omega)).trans (decide_eq_false (by omega))) ?_
    refine eR.step 3 (F' := (15, [(0, .ref 23), (1, .int (nI (a))), (2, .int (nI (n))), (3, .int (nI (c))), (4, .int (nI (i)))], [.int (nI (i)), .int (nI (a)), .ref 23])) (h' := (Wd C e P Q m N R t Z)) (fun _ _ => rfl) ?_
    refine eR.call (k' := 110) (as := [.ref 23, .int (nI (a)), .int (nI (i))]) (rest := []) (v := some (.int (nI (bi (bt e a i))))) (h1 := (Wd C e P Q m N R t Z)) rfl rfl rfl rfl (eg (Nat.le_of_ble_eq_true rfl) (show 22 ≤ lo by omega) (Nat.le_of_ble_eq_true rfl)) (m_is he (by omega) (by omega)) ?_
    rw [cf]
    by_cases h : bt e a i = true
    · refine eR.ifc rfl false (mb_et h) ?_
      refine eR.step 4 (F' := (32, [(0, .ref 23), (1, .int (nI (a))), (2, .int (nI (n))), (3, .int (nI (c))), (4, .int (nI (i) + 1))], [])) (h' := (Wd C e P Q m N R t Z)) (fun _ _ => rfl) ?_
      rw [show nI (i) + 1 = nI (i + 1) from nI_add (i) 1]
      refine eR.step 1 (F' := (5, [(0, .ref 23), (1, .int (nI (a))), (2, .int (nI (n))), (3, .int (nI (c))), (4, .int (nI (i + 1)))], [])) (h' := (Wd C e P Q m N R t Z)) (fun _ _ => rfl) ?_
      rw [if_pos h, Nat.zero_add]
      exact l_free hlo he hn ha q (i + 1) c (by omega) (by omega)
    · refine eR.ifc rfl true (mb_ef h) ?_
      refine eR.step 2 (F' := (27, [(0, .ref 23), (1, .int (nI (a))), (2, .int (nI (n))), (3, .int (nI (c))), (4, .int (nI (i)))], [.int (nI 1), .int (nI (c))])) (h' := (Wd C e P Q m N R t Z)) (fun _ _ => rfl) ?_
      refine eR.nadd rfl ?_
      refine eR.step 2 (F' := (32, [(0, .ref 23), (1, .int (nI (a))), (2, .int (nI (n))), (3, .int (nI (c + 1))), (4, .int (nI (i) + 1))], [])) (h' := (Wd C e P Q m N R t Z)) (fun _ _ => rfl) ?_
      rw [show nI (i) + 1 = nI (i + 1) from nI_add (i) 1]
      refine eR.step 1 (F' := (5, [(0, .ref 23), (1, .int (nI (a))), (2, .int (nI (n))), (3, .int (nI (c + 1))), (4, .int (nI (i + 1)))], [])) (h' := (Wd C e P Q m N R t Z)) (fun _ _ => rfl) ?_
      rw [if_neg h, ← Nat.add_assoc]
      exact l_free hlo he hn ha q (i + 1) (c + 1) (by omega) (by omega)
theorem m_free {cm sm fr lo : Nat} {C : gC} {e : Nat → Nat} {P Q : gT} {m : Nat} {N : Nat → Nat} {R : gS} {t : Nat} {Z : mj_H} (hlo : 22 ≤ lo) (he : dk e) {a n : Nat} (hn : n < 2 ^ 19) (ha : a + n / 8 < 2048) : eE mm_P cm sm (fr + 2) lo 133 [.ref 23, .int (nI (a)), .int (nI (n))] (Wd C e P Q m N R t Z) (.inl (some (.int (nI (cf e a 0 n)))), (Wd C e P Q m N R t Z)) := by
  refine eE.of ?_
  refine eR.step 4 (F' := (5, [(0, .ref 23), (1, .int (nI (a))), (2, .int (nI (n))), (3, .int (nI 0)), (4, .int (nI 0))], [])) (h' := (Wd C e P Q m N R t Z)) (fun _ _ => rfl) ?_
  have h := l_free (C := C) (P := P) (Q := Q) (m := m) (N := N) (R := R) (t := t) (Z := Z) (cm := cm) (sm := sm) (fr := fr) hlo he hn ha n 0 0 (by omega) (by omega)
  rw [Nat.zero_add] at h
  exact h
theorem rm_new {e : Nat → Nat} {a n : Nat} (h : bt e a n = false) : rm e a n true = tb e a n := by
  unfold rm
  rw [if_neg (by rw [h]; exact Bool.noConfusion)]
theorem l_take {cm sm fr lo : Nat} {C : gC} {e : Nat → Nat} {P Q : gT} {m : Nat} {N : Nat → Nat} {R : gS} {t : Nat} {Z : mj_H} (hlo : 24 ≤ lo) (he : dk e) {a n : Nat} (hn : n < 2 ^ 19) (ha : a + n / 8 < 2048) (hb : ∀ k, k < n → bt e a k = true) (h0 : bt e a n = false) : ∀ (q i : Nat), i + q = n → eR mm_P cm sm (fr + 1) lo 109 (2, [(0, .ref 23), (1, .int (nI (a))), (2, .int (nI (i)))], []) (Wd C e P Q m N R t Z) (.inl (some (.int (nI n))), (Wd C (tb e a n) P Q m N R t Z))
  | 0, i, h1 => by
    refine eR.step 3 (F' := (5, [(0, .ref 23), (1, .int (nI (a))), (2, .int (nI (i)))], [.int (nI (i)), .int (nI (a)), .ref 23])) (h' := (Wd C e P Q m N R t Z)) (fun _ _ => rfl) ?_
    refine eR.call (k' := 110) (as := [.ref 23, .int (nI (a)), .int (nI (i))]) (rest := []) (v := some (.int (nI (bi (bt e a i))))) (h1 := (Wd C e P Q m N R t Z)) rfl rfl rfl rfl (eg (Nat.le_of_ble_eq_true rfl) (show 22 ≤ lo by omega) (Nat.le_of_ble_eq_true rfl)) (m_is he (by omega) (by omega)) ?_
    have e0 : i = n := by omega
    subst e0
    refine eR.ifc rfl true (mb_ef (by rw [h0]; exact Bool.noConfusion)) ?_
    refine eR.step 4 (F' := (21, [(0, .ref 23), (1, .int (nI (a))), (2, .int (nI (i)))], [.int (nI 1), .int (nI (i)), .int (nI (a)), .ref 23])) (h' := (Wd C e P Q m N R t Z)) (fun _ _ => rfl) ?_
    refine eR.call (k' := 107) (as := [.ref 23, .int (nI (a)), .int (nI (i)), .int (nI 1)]) (rest := []) (v := none) (h1 := (Wd C (rm e a i true) P Q m N R t Z)) rfl rfl rfl rfl (eg (Nat.le_of_ble_eq_true rfl) (show 24 ≤ lo by omega) (Nat.le_of_ble_eq_true rfl)) (m_mark1 he (by omega) ha) ?_
    rw [rm_new h0]
    refine eR.step 1 (F' := (25, [(0, .ref 23), (1, .int (nI (a))), (2, .int (nI (i)))], [.int (nI (i))])) (h' := (Wd C (tb e a i) P Q m N R t Z)) (fun _ _ => rfl) ?_
    exact eR.ret rfl rfl rfl
  | q + 1, i, h1 => by
    refine eR.step 3 (F' := (5, [(0, .ref 23), (1, .int (nI (a))), (2, .int (nI (i)))], [.int (nI (i)), .int (nI (a)), .ref 23])) (h' := (Wd C e P Q m N R t Z)) (fun _ _ => rfl) ?_
    refine eR.call (k' := 110) (as := [.ref 23, .int (nI (a)), .int (nI (i))]) (rest := []) (v := some (.int (nI (bi (bt e a i))))) (h1 := (Wd C e P Q m N R t Z)) rfl rfl rfl rfl (eg (Nat.le_of_ble_eq_true rfl) (show 22 ≤ lo by omega) (Nat.le_of_ble_eq_true rfl)) (m_is he (by omega) (by omega)) ?_
    refine eR.ifc rfl false (mb_et (hb i (by omega))) ?_
    refine eR.step 1 (F' := (14, [(0, .ref 23), (1, .int (nI (a))), (2, .int (nI (i) + 1))], [])) (h' := (Wd C e P Q m N R t Z)) (fun _ _ => rfl) ?_
    rw [show nI (i) + 1 = nI (i + 1) from nI_add (i) 1]
    refine eR.step 1 (F' := (2, [(0, .ref 23), (1, .int (nI (a))), (2, .int (nI (i + 1)))], [])) (h' := (Wd C e P Q m N R t Z)) (fun _ _ => rfl) ?_
    exact l_take hlo he hn ha hb h0 q (i + 1) (by omega)
theorem m_take {cm sm fr lo : Nat} {C : gC} {e : Nat → Nat} {P Q : gT} {m : Nat} {N : Nat → Nat} {R : gS} {t : Nat} {Z : mj_H} (hlo : 24 ≤ lo) (he : dk e) {a n : Nat} (hn : n < 2 ^ 19) (ha : a + n / 8 < 2048) (hb : ∀ k, k < n → bt e a k = true) (h0 : bt e a n = false) : eE mm_P cm sm (fr + 2) lo 109 [.ref 23, .int (nI (a))] (Wd C e P Q m N R t Z) (.inl (some (.int (nI (n)))), (Wd C (tb e a n) P Q m N R t Z)) := by
  refine eE.of ?_
  refine eR.step 2 (F' := (2, [(0, .ref 23), (1, .int (nI (a))), (2, .int (nI 0))], [])) (h' := (Wd C e P Q m N R t Z)) (fun _ _ => rfl) ?_
  exact l_take hlo he hn ha hb h0 n 0 (by omega)
theorem lw_all {e : Nat → Nat} (m3 : ∀ b, b < 9 → bt e 3 b = true) (h : lw e 3 9 55 ≠ 0) : ∀ k, k < lw e 3 9 55 → bt e 3 k = true := by
  intro k hk
  have L := lw_spec e 3 55 9 h
  by_cases a : k < 9
  · exact m3 k a
  · exact L.2.2.2 k (by omega) hk
theorem l_takeB {cm sm fr lo : Nat} {C : gC} {e : Nat → Nat} {P Q : gT} {m : Nat} {N : Nat → Nat} {R : gS} {t : Nat} {Z : mj_H} (he : dk e) {b : Nat} (hb : b < 64) : ∀ (q k : Nat), k + q = 32 → eR mm_P cm sm fr lo 114 (8, [(0, .ref 23), (1, .int (nI (b))), (2, .int (nI (k)))], []) (Wd C (cz e (32 * b) k) P Q m N R t Z) (.inl (some (.int (nI b))), (Wd C (cz e (32 * b) 32) P Q m N R t Z))
  | 0, k, h1 => by
    have e0 : k = 32 := by omega
    subst e0
    refine eR.step 2 (F' := (11, [(0, .ref 23), (1, .int (nI (b))), (2, .int (nI 32))], [.int (nI 32), .int (nI 32)])) (h' := (Wd C (cz e (32 * b) 32) P Q m N R t Z)) (fun _ _ => rfl) ?_
    refine eR.icmp rfl true ((nc_ge (by omega) (by omega)).trans (decide_eq_true (by omega))) ?_
    refine eR.step 1 (F' := (33, [(0, .ref 23), (1, .int (nI (b))), (2, .int (nI 32))], [.int (nI (b))])) (h' := (Wd C (cz e (32 * b) 32) P Q m N R t Z)) (fun _ _ => rfl) ?_
    exact eR.ret rfl rfl rfl
  | q + 1, k, h1 => by
    refine eR.step 2 (F' := (11, [(0, .ref 23), (1, .int (nI (b))), (2, .int (nI (k)))], [.int (nI 32), .int (nI (k))])) (h' := (Wd C (cz e (32 * b) k) P Q m N R t Z)) (fun _ _ => rfl) ?_
    refine eR.icmp rfl false ((nc_ge (by omega) (by omega)).trans (decide_eq_false (by omega))) ?_
    refine eR.step 4 (F' := (21, [(0, .ref 23), (1, .int (nI (b))), (2, .int (nI (k)))], [.int (nI (b)), .int (nI 32), .ref 24])) (h' := (Wd C (cz e (32 * b) k) P Q m N R t Z)) (fun _ _ => rfl) ?_
    refine eR.nmul rfl ?_
    refine eR.step 1 (F' := (23, [(0, .ref 23), (1, .int (nI (b))), (2, .int (nI (k)))], [.int (nI (k)), .int (nI (32 * b)), .ref 24])) (h' := (Wd C (cz e (32 * b) k) P Q m N R t Z)) (fun _ _ => rfl) ?_
    refine eR.nadd rfl ?_
    refine eR.step 1 (F' := (25, [(0, .ref 23), (1, .int (nI (b))), (2, .int (nI (k)))], [.int (nI 0), .int (nI ((32 * b) + k)), .ref 24])) (h' := (Wd C (cz e (32 * b) k) P Q m N R t Z)) (fun _ _ => rfl) ?_
    refine eR.st24 rfl (by omega) (by decide) ?_
    rw [cz_s he]
    refine eR.step 1 (F' := (29, [(0, .ref 23), (1, .int (nI (b))), (2, .int (nI (k) + 1))], [])) (h' := (Wd C (cz e (32 * b) (k + 1)) P Q m N R t Z)) (fun _ _ => rfl) ?_
    rw [show nI (k) + 1 = nI (k + 1) from nI_add (k) 1]
    refine eR.step 1 (F' := (8, [(0, .ref 23), (1, .int (nI (b))), (2, .int (nI (k + 1)))], [])) (h' := (Wd C (cz e (32 * b) (k + 1)) P Q m N R t Z)) (fun _ _ => rfl) ?_
    exact l_takeB he hb q (k + 1) (by omega)
theorem m_takeB {cm sm fr lo : Nat} {C : gC} {e : Nat → Nat} {P Q : gT} {m : Nat} {N : Nat → Nat} {R : gS} {t : Nat} {Z : mj_H} (hlo : 46 ≤ lo) (he : dk e) (m3 : ∀ b, b < 9 → bt e 3 b = true) (h0 : lw e 3 9 55 ≠ 0) : eE mm_P cm sm (fr + 3) lo 114 [.ref 23] (Wd C e P Q m N R t Z) (.inl (some (.int (nI (lw e 3 9 55)))), (Wd C (tB e) P Q m N R t Z)) := by
  refine eE.of ?_
  have L := lw_spec e 3 55 9 h0
  refine eR.step 2 (F' := (2, [(0, .ref 23)], [.int (nI 3), .ref 23])) (h' := (Wd C e P Q m N R t Z)) (fun _ _ => rfl) ?_
  refine eR.call (k' := 109) (as := [.ref 23, .int (nI 3)]) (rest := []) (v := some (.int (nI (lw e 3 9 55)))) (h1 := (Wd C (tb e 3 (lw e 3 9 55)) P Q m N R t Z)) rfl rfl rfl rfl (eg (Nat.le_of_ble_eq_true rfl) (show 22 ≤ lo by omega) (Nat.le_of_ble_eq_true rfl)) (m_take (show 24 ≤ lo - 22 by omega) he (n := lw e 3 9 55) (by omega) (by omega) (lw_all m3 h0) L.2.2.1) ?_
  refine eR.step 3 (F' := (8, [(0, .ref 23), (1, .int (nI (lw e 3 9 55))), (2, .int (nI 0))], [])) (h' := (Wd C (tb e 3 (lw e 3 9 55)) P Q m N R t Z)) (fun _ _ => rfl) ?_
  have h := l_takeB (cm := cm) (sm := sm) (fr := fr + 2) (lo := lo) (C := C) (P := P) (Q := Q) (m := m) (N := N) (R := R) (t := t) (Z := Z) (tb_dk he 3 (lw e 3 9 55)) (b := lw e 3 9 55) (by omega) 32 0 (by omega)
  rw [cz_0] at h
  have e1 : tB e = cz (tb e 3 (lw e 3 9 55)) (32 * lw e 3 9 55) 32 := by unfold tB tk; rw [if_neg h0, if_neg h0, Nat.mul_comm]
  rw [e1]
  exact h
theorem m_kind {cm sm fr lo : Nat} {C : gC} {e : Nat → Nat} {P Q : gT} {m : Nat} {N : Nat → Nat} {R : gS} {t : Nat} {Z : mj_H} (hlo : 20 ≤ lo) {i : Nat} (hi : i < 16) : eE mm_P cm sm (fr + 2) lo 128 [.ref 23, .int (nI (i))] (Wd C e P Q m N R t Z) (.inl (some (.int (nI (e (32 + (16 * i)))))), (Wd C e P Q m N R t Z)) := by
  refine eE.of ?_
  refine eR.step 3 (F' := (5, [(0, .ref 23), (1, .int (nI (i)))], [.int (nI (i)), .ref 24])) (h' := (Wd C e P Q m N R t Z)) (fun _ _ => rfl) ?_
  refine eR.call (k' := 111) (as := [.int (nI (i))]) (rest := [.ref 24]) (v := some (.int (nI (32 + (16 * i))))) (h1 := (Wd C e P Q m N R t Z)) rfl rfl rfl rfl (eg (Nat.le_of_ble_eq_true rfl) (show 20 ≤ lo by omega) (Nat.le_of_ble_eq_true rfl)) (m_at (by omega)) ?_
  refine eR.ld24 rfl (by omega) ?_
  exact eR.ret rfl rfl rfl
theorem m_size {cm sm fr lo : Nat} {C : gC} {e : Nat → Nat} {P Q : gT} {m : Nat} {N : Nat → Nat} {R : gS} {t : Nat} {Z : mj_H} (hlo : 20 ≤ lo) (he : dk e) {i : Nat} (hi : i < 16) : eE mm_P cm sm (fr + 2) lo 131 [.ref 23, .int (nI (i))] (Wd C e P Q m N R t Z) (.inl (some (.int (nI (e (32 + (16 * i) + 2) + (256 * e (32 + (16 * i) + 3)))))), (Wd C e P Q m N R t Z)) := by
  refine eE.of ?_
  refine eR.step 3 (F' := (5, [(0, .ref 23), (1, .int (nI (i)))], [.int (nI (i)), .ref 24])) (h' := (Wd C e P Q m N R t Z)) (fun _ _ => rfl) ?_
  refine eR.call (k' := 111) (as := [.int (nI (i))]) (rest := [.ref 24]) (v := some (.int (nI (32 + (16 * i))))) (h1 := (Wd C e P Q m N R t Z)) rfl rfl rfl rfl (eg (Nat.le_of_ble_eq_true rfl) (show 20 ≤ lo by omega) (Nat.le_of_ble_eq_true rfl)) (m_at (by omega)) ?_
  refine eR.step 1 (F' := (9, [(0, .ref 23), (1, .int (nI (i)))], [.int (nI 2), .int (nI (32 + (16 * i))), .ref 24])) (h' := (Wd C e P Q m N R t Z)) (fun _ _ => rfl) ?_
  refine eR.nadd rfl ?_
  refine eR.ld24 rfl (by omega) ?_
  refine eR.step 3 (F' := (16, [(0, .ref 23), (1, .int (nI (i)))], [.int (nI (i)), .ref 24, .int (nI (e ((32 + (16 * i)) + 2)))])) (h' := (Wd C e P Q m N R t Z)) (fun _ _ => rfl) ?_
  refine eR.call (k' := 111) (as := [.int (nI (i))]) (rest := [.ref 24, .int (nI (e ((32 + (16 * i)) + 2)))]) (v := some (.int (nI (32 + (16 * i))))) (h1 := (Wd C e P Q m N R t Z)) rfl rfl rfl rfl (eg (Nat.le_of_ble_eq_true rfl) (show 20 ≤ lo by omega) (Nat.le_of_ble_eq_true rfl)) (m_at (by omega)) ?_
  refine eR.step 1 (F' := (20, [(0, .ref 23), (1, .int (nI (i)))], [.int (nI 3), .int (nI (32 + (16 * i))), .ref 24, .int (nI (e ((32 + (16 * i)) + 2)))])) (h' := (Wd C e P Q m N R t Z)) (fun _ _ => rfl) ?_
  refine eR.nadd rfl ?_
  refine eR.ld24 rfl (by omega) ?_
  refine eR.step 1 (F' := (24, [(0, .ref 23), (1, .int (nI (i)))], [.int (nI 8), .int (nI (e ((32 + (16 * i)) + 3))), .int (nI (e ((32 + (16 * i)) + 2)))])) (h' := (Wd C e P Q m N R t Z)) (fun _ _ => rfl) ?_
  refine eR.step 2 (F' := (26, [(0, .ref 23), (1, .int (nI (i)))], [.int (nI (e (32 + (16 * i) + 2)) ||| (nI (e (32 + (16 * i) + 3)) <<< (nI 8 &&& 31)))])) (h' := (Wd C e P Q m N R t Z)) (fun _ _ => rfl) ?_
  rw [ior_8 (he.1 _) (he.1 _)]
  exact eR.ret rfl rfl rfl
theorem ss_ref (e : Nat → Nat) (i s : Nat) : dp (dp e (32 + (16 * i) + 2) (s % 256)) (32 + (16 * i) + 3) (s / 256) = ss e i s := by
  unfold ss
  have h : dp e (32 + (16 * i) + 2) (s % 256) = dp e (32 + (16 * i) + 2) s := by
    funext k
    unfold dp
    rw [Nat.mod_mod]
  rw [h]
theorem m_setSize {cm sm fr lo : Nat} {C : gC} {e : Nat → Nat} {P Q : gT} {m : Nat} {N : Nat → Nat} {R : gS} {t : Nat} {Z : mj_H} (hlo : 20 ≤ lo) {i : Nat} (hi : i < 16) {s : Nat} (hs : s < 2 ^ 16) : eE mm_P cm sm (fr + 2) lo 116 [.ref 23, .int (nI (i)), .int (nI (s))] (Wd C e P Q m N R t Z) (.inl (none), (Wd C (ss e i s) P Q m N R t Z)) := by
  refine eE.of ?_
  refine eR.step 3 (F' := (5, [(0, .ref 23), (1, .int (nI (i))), (2, .int (nI (s)))], [.int (nI (i)), .ref 24])) (h' := (Wd C e P Q m N R t Z)) (fun _ _ => rfl) ?_
  refine eR.call (k' := 111) (as := [.int (nI (i))]) (rest := [.ref 24]) (v := some (.int (nI (32 + (16 * i))))) (h1 := (Wd C e P Q m N R t Z)) rfl rfl rfl rfl (eg (Nat.le_of_ble_eq_true rfl) (show 20 ≤ lo by omega) (Nat.le_of_ble_eq_true rfl)) (m_at (by omega)) ?_
  refine eR.step 1 (F' := (9, [(0, .ref 23), (1, .int (nI (i))), (2, .int (nI (s)))], [.int (nI 2), .int (nI (32 + (16 * i))), .ref 24])) (h' := (Wd C e P Q m N R t Z)) (fun _ _ => rfl) ?_
  refine eR.nadd rfl ?_
  refine eR.step 2 (F' := (14, [(0, .ref 23), (1, .int (nI (i))), (2, .int (nI (s)))], [.int (nI 255), .int (nI (s)), .int (nI ((32 + (16 * i)) + 2)), .ref 24])) (h' := (Wd C e P Q m N R t Z)) (fun _ _ => rfl) ?_
  refine eR.step 1 (F' := (15, [(0, .ref 23), (1, .int (nI (i))), (2, .int (nI (s)))], [.int (nI (s) &&& nI 255), .int (nI ((32 + (16 * i)) + 2)), .ref 24])) (h' := (Wd C e P Q m N R t Z)) (fun _ _ => rfl) ?_
  rw [ian_255]
  refine eR.st24 rfl (by omega) (by omega) ?_
  refine eR.step 3 (F' := (21, [(0, .ref 23), (1, .int (nI (i))), (2, .int (nI (s)))], [.int (nI (i)), .ref 24])) (h' := (Wd C (dp e ((32 + (16 * i)) + 2) (s % 256)) P Q m N R t Z)) (fun _ _ => rfl) ?_
  refine eR.call (k' := 111) (as := [.int (nI (i))]) (rest := [.ref 24]) (v := some (.int (nI (32 + (16 * i))))) (h1 := (Wd C (dp e ((32 + (16 * i)) + 2) (s % 256)) P Q m N R t Z)) rfl rfl rfl rfl (eg (Nat.le_of_ble_eq_true rfl) (show 20 ≤ lo by omega) (Nat.le_of_ble_eq_true rfl)) (m_at (by omega)) ?_
  refine eR.step 1 (F' := (25, [(0, .ref 23), (1, .int (nI (i))), (2, .int (nI (s)))], [.int (nI 3), .int (nI (32 + (16 * i))), .ref 24])) (h' := (Wd C (dp e ((32 + (16 * i)) + 2) (s % 256)) P Q m N R t Z)) (fun _ _ => rfl) ?_
  refine eR.nadd rfl ?_
  refine eR.step 2 (F' := (29, [(0, .ref 23), (1, .int (nI (i))), (2, .int (nI (s)))], [.int (nI 8), .int (nI (s)), .int (nI ((32 + (16 * i)) + 3)), .ref 24])) (h' := (Wd C (dp e ((32 + (16 * i)) + 2) (s % 256)) P Q m N R t Z)) (fun _ _ => rfl) ?_
  refine eR.step 1 (F' := (30, [(0, .ref 23), (1, .int (nI (i))), (2, .int (nI (s)))], [.int (nI (s) >>> (nI 8 &&& 31)), .int (nI ((32 + (16 * i)) + 3)), .ref 24])) (h' := (Wd C (dp e ((32 + (16 * i)) + 2) (s % 256)) P Q m N R t Z)) (fun _ _ => rfl) ?_
  rw [ish_8 hs]
  refine eR.st24 rfl (by omega) (by omega) ?_
  rw [ss_ref]
  exact eR.ret rfl rfl rfl
theorem m_addL {cm sm fr lo : Nat} {C : gC} {e : Nat → Nat} {P Q : gT} {m : Nat} {N : Nat → Nat} {R : gS} {t : Nat} {Z : mj_H} (hlo : 20 ≤ lo) {i : Nat} (hi : i < 16) (h : e (32 + (16 * i) + 1) < 255) : eE mm_P cm sm (fr + 2) lo 140 [.ref 23, .int (nI (i)), .int (nI 1)] (Wd C e P Q m N R t Z) (.inl (none), (Wd C (al e i 1) P Q m N R t Z)) := by
  refine eE.of ?_
  refine eR.step 3 (F' := (5, [(0, .ref 23), (1, .int (nI (i))), (2, .int (nI 1))], [.int (nI (i)), .ref 24])) (h' := (Wd C e P Q m N R t Z)) (fun _ _ => rfl) ?_
  refine eR.call (k' := 111) (as := [.int (nI (i))]) (rest := [.ref 24]) (v := some (.int (nI (32 + (16 * i))))) (h1 := (Wd C e P Q m N R t Z)) rfl rfl rfl rfl (eg (Nat.le_of_ble_eq_true rfl) (show 20 ≤ lo by omega) (Nat.le_of_ble_eq_true rfl)) (m_at (by omega)) ?_
  refine eR.step 1 (F' := (9, [(0, .ref 23), (1, .int (nI (i))), (2, .int (nI 1))], [.int (nI 1), .int (nI (32 + (16 * i))), .ref 24])) (h' := (Wd C e P Q m N R t Z)) (fun _ _ => rfl) ?_
  refine eR.nadd rfl ?_
  refine eR.step 1 (F' := (11, [(0, .ref 23), (1, .int (nI (i))), (2, .int (nI 1))], [.int (nI ((32 + (16 * i)) + 1)), .ref 24, .int (nI ((32 + (16 * i)) + 1)), .ref 24])) (h' := (Wd C e P Q m N R t Z)) (fun _ _ => rfl) ?_
  refine eR.ld24 rfl (by omega) ?_
  refine eR.step 1 (F' := (13, [(0, .ref 23), (1, .int (nI (i))), (2, .int (nI 1))], [.int (nI 1), .int (nI (e ((32 + (16 * i)) + 1))), .int (nI ((32 + (16 * i)) + 1)), .ref 24])) (h' := (Wd C e P Q m N R t Z)) (fun _ _ => rfl) ?_
  refine eR.nadd rfl ?_
  refine eR.st24 rfl (by omega) (by omega) ?_
  exact eR.ret rfl rfl rfl
theorem nI_mm {n : Nat} (h : 1 ≤ n) : nI (n + 4294967295) = nI (n - 1) := by
  apply Int32.toBitVec_inj.mp
  show BitVec.ofNat 32 (n + 4294967295) = BitVec.ofNat 32 (n - 1)
  apply BitVec.eq_of_toNat_eq
  simp only [BitVec.toNat_ofNat]
  omega
theorem al_m1 {e : Nat → Nat} {i : Nat} (h : 1 ≤ e (32 + (16 * i) + 1)) (hb : e (32 + (16 * i) + 1) < 256) : dp e (32 + (16 * i) + 1) (e (32 + (16 * i) + 1) - 1) = al e i 4294967295 := by
  funext k
  unfold al dp
  split
  · omega
  · rfl
theorem m_addLm {cm sm fr lo : Nat} {C : gC} {e : Nat → Nat} {P Q : gT} {m : Nat} {N : Nat → Nat} {R : gS} {t : Nat} {Z : mj_H} (hlo : 20 ≤ lo) (he : dk e) {i : Nat} (hi : i < 16) (h : 1 ≤ e (32 + (16 * i) + 1)) : eE mm_P cm sm (fr + 2) lo 140 [.ref 23, .int (nI (i)), .int (-1)] (Wd C e P Q m N R t Z) (.inl (none), (Wd C (al e i 4294967295) P Q m N R t Z)) := by
  refine eE.of ?_
  refine eR.step 3 (F' := (5, [(0, .ref 23), (1, .int (nI (i))), (2, .int (-1))], [.int (nI (i)), .ref 24])) (h' := (Wd C e P Q m N R t Z)) (fun _ _ => rfl) ?_
  refine eR.call (k' := 111) (as := [.int (nI (i))]) (rest := [.ref 24]) (v := some (.int (nI (32 + (16 * i))))) (h1 := (Wd C e P Q m N R t Z)) rfl rfl rfl rfl (eg (Nat.le_of_ble_eq_true rfl) (show 20 ≤ lo by omega) (Nat.le_of_ble_eq_true rfl)) (m_at (by omega)) ?_
  refine eR.step 1 (F' := (9, [(0, .ref 23), (1, .int (nI (i))), (2, .int (-1))], [.int (nI 1), .int (nI (32 + (16 * i))), .ref 24])) (h' := (Wd C e P Q m N R t Z)) (fun _ _ => rfl) ?_
  refine eR.nadd rfl ?_
  refine eR.step 1 (F' := (11, [(0, .ref 23), (1, .int (nI (i))), (2, .int (-1))], [.int (nI ((32 + (16 * i)) + 1)), .ref 24, .int (nI ((32 + (16 * i)) + 1)), .ref 24])) (h' := (Wd C e P Q m N R t Z)) (fun _ _ => rfl) ?_
  refine eR.ld24 rfl (by omega) ?_
  refine eR.step 1 (F' := (13, [(0, .ref 23), (1, .int (nI (i))), (2, .int (-1))], [.int (-1), .int (nI (e ((32 + (16 * i)) + 1))), .int (nI ((32 + (16 * i)) + 1)), .ref 24])) (h' := (Wd C e P Q m N R t Z)) (fun _ _ => rfl) ?_
  refine eR.step 1 (F' := (14, [(0, .ref 23), (1, .int (nI (i))), (2, .int (-1))], [.int (nI (e (32 + (16 * i) + 1)) + -1), .int (nI ((32 + (16 * i)) + 1)), .ref 24])) (h' := (Wd C e P Q m N R t Z)) (fun _ _ => rfl) ?_
  rw [show (-1 : Int32) = nI 4294967295 by decide, na_add, show nI (e (32 + (16 * i) + 1) + 4294967295) = nI (e (32 + (16 * i) + 1) - 1) from nI_mm h]
  refine eR.st24 rfl (by omega) (Nat.lt_of_le_of_lt (Nat.sub_le _ _) (he.1 _)) ?_
  rw [show dp e (32 + (16 * i) + 1) (e (32 + (16 * i) + 1) - 1) = al e i 4294967295 from al_m1 h (he.1 _)]
  exact eR.ret rfl rfl rfl
def po (e : Nat → Nat) (i w : Nat) : Nat := (eo e i w).getD 0
theorem po_lo {e : Nat → Nat} {i w : Nat} (h : w < 6) : po e i w = 32 + (16 * i) + 4 + w := by unfold po eo; rw [if_pos h]; rfl
theorem po_0 {e : Nat → Nat} {i w : Nat} (h : ¬ w < 6) (hx : e (32 + (16 * i) + 10) = 0) : po e i w = 0 := by unfold po eo; rw [if_neg h, if_pos hx]; rfl
theorem po_hi {e : Nat → Nat} {i w : Nat} (h : ¬ w < 6) (hx : ¬ e (32 + (16 * i) + 10) = 0) : po e i w = e (32 + (16 * i) + 10) * 32 + w - 6 := by unfold po eo; rw [if_neg h, if_neg hx]; rfl
theorem po_bo (e : Nat → Nat) (i w : Nat) : bo e i w = if po e i w = 0 then 0 else e (po e i w) := by
  by_cases h : w < 6
  · rw [po_lo h, if_neg (by omega), bo_lo _ _ _ h]
  · by_cases hx : e (32 + (16 * i) + 10) = 0
    · rw [po_0 h hx, if_pos rfl, bo_ix0 _ _ _ (by omega) hx]
    · rw [po_hi h hx, if_neg (by omega)]
      unfold bo eo
      rw [if_neg h, if_neg hx]
      rfl
theorem po_lt {e : Nat → Nat} {i w : Nat} (hi : i < 16) (hw : w < 38) (hx : e (32 + (16 * i) + 10) < 64) : po e i w < 2048 := by
  by_cases h : w < 6
  · rw [po_lo h]; omega
  · by_cases h0 : e (32 + (16 * i) + 10) = 0
    · rw [po_0 h h0]; omega
    · rw [po_hi h h0]; omega
theorem m_place {cm sm fr lo : Nat} {C : gC} {e : Nat → Nat} {P Q : gT} {m : Nat} {N : Nat → Nat} {R : gS} {t : Nat} {Z : mj_H} (hlo : 20 ≤ lo) {i : Nat} (hi : i < 16) {w : Nat} (hw : w < 38) (hx : e (32 + (16 * i) + 10) < 64)  : eE mm_P cm sm (fr + 2) lo 115 [.ref 23, .int (nI (i)), .int (nI (w))] (Wd C e P Q m N R t Z) (.inl (some (.int (nI (po e i w)))), (Wd C e P Q m N R t Z)) := by
  by_cases h : w < 6
  · refine eE.of ?_
    rw [po_lo h]
    refine eR.step 2 (F' := (3, [(0, .ref 23), (1, .int (nI (i))), (2, .int (nI (w)))], [.int (nI 6), .int (nI (w))])) (h' := (Wd C e P Q m N R t Z)) (fun _ _ => rfl) ?_
    refine eR.icmp rfl false ((nc_ge (by omega) (by omega)).trans (decide_eq_false (by omega))) ?_
    refine eR.step 1 (F' := (7, [(0, .ref 23), (1, .int (nI (i))), (2, .int (nI (w)))], [.int (nI (i))])) (h' := (Wd C e P Q m N R t Z)) (fun _ _ => rfl) ?_
    refine eR.call (k' := 111) (as := [.int (nI (i))]) (rest := []) (v := some (.int (nI (32 + (16 * i))))) (h1 := (Wd C e P Q m N R t Z)) rfl rfl rfl rfl (eg (Nat.le_of_ble_eq_true rfl) (show 20 ≤ lo by omega) (Nat.le_of_ble_eq_true rfl)) (m_at (by omega)) ?_
    refine eR.step 1 (F' := (11, [(0, .ref 23), (1, .int (nI (i))), (2, .int (nI (w)))], [.int (nI 4), .int (nI (32 + (16 * i)))])) (h' := (Wd C e P Q m N R t Z)) (fun _ _ => rfl) ?_
    refine eR.nadd rfl ?_
    refine eR.step 1 (F' := (13, [(0, .ref 23), (1, .int (nI (i))), (2, .int (nI (w)))], [.int (nI (w)), .int (nI ((32 + (16 * i)) + 4))])) (h' := (Wd C e P Q m N R t Z)) (fun _ _ => rfl) ?_
    refine eR.nadd rfl ?_
    exact eR.ret rfl rfl rfl
  · refine eE.of ?_
    refine eR.step 2 (F' := (3, [(0, .ref 23), (1, .int (nI (i))), (2, .int (nI (w)))], [.int (nI 6), .int (nI (w))])) (h' := (Wd C e P Q m N R t Z)) (fun _ _ => rfl) ?_
    refine eR.icmp rfl true ((nc_ge (by omega) (by omega)).trans (decide_eq_true (by omega))) ?_
    refine eR.step 3 (F' := (20, [(0, .ref 23), (1, .int (nI (i))), (2, .int (nI (w)))], [.int (nI (i)), .ref 24])) (h' := (Wd C e P Q m N R t Z)) (fun _ _ => rfl) ?_
    refine eR.call (k' := 111) (as := [.int (nI (i))]) (rest := [.ref 24]) (v := some (.int (nI (32 + (16 * i))))) (h1 := (Wd C e P Q m N R t Z)) rfl rfl rfl rfl (eg (Nat.le_of_ble_eq_true rfl) (show 20 ≤ lo by omega) (Nat.le_of_ble_eq_true rfl)) (m_at (by omega)) ?_
    refine eR.step 1 (F' := (25, [(0, .ref 23), (1, .int (nI (i))), (2, .int (nI (w)))], [.int (nI 10), .int (nI (32 + (16 * i))), .ref 24])) (h' := (Wd C e P Q m N R t Z)) (fun _ _ => rfl) ?_
    refine eR.nadd rfl ?_
    refine eR.ld24 rfl (by omega) ?_
    refine eR.step 2 (F' := (29, [(0, .ref 23), (1, .int (nI (i))), (2, .int (nI (w))), (3, .int (nI (e ((32 + (16 * i)) + 10))))], [.int (nI (e ((32 + (16 * i)) + 10)))])) (h' := (Wd C e P Q m N R t Z)) (fun _ _ => rfl) ?_
    by_cases hx0 : e (32 + (16 * i) + 10) = 0
    · rw [po_0 h hx0]
      refine eR.ifc rfl false ((nc_ne (b := 0) (by omega) (by decide)).trans (decide_eq_false (by omega))) ?_
      refine eR.step 2 (F' := (45, [(0, .ref 23), (1, .int (nI (i))), (2, .int (nI (w))), (3, .int (nI (e ((32 + (16 * i)) + 10))))], [.int (nI 0)])) (h' := (Wd C e P Q m N R t Z)) (fun _ _ => rfl) ?_
      exact eR.ret rfl rfl rfl
    · rw [po_hi h hx0, Nat.mul_comm (e (32 + (16 * i) + 10)) 32]
      refine eR.ifc rfl true ((nc_ne (b := 0) (by omega) (by decide)).trans (decide_eq_true (by omega))) ?_
      refine eR.step 2 (F' := (39, [(0, .ref 23), (1, .int (nI (i))), (2, .int (nI (w))), (3, .int (nI (e ((32 + (16 * i)) + 10))))], [.int (nI (e ((32 + (16 * i)) + 10))), .int (nI 32)])) (h' := (Wd C e P Q m N R t Z)) (fun _ _ => rfl) ?_
      refine eR.nmul rfl ?_
      refine eR.step 1 (F' := (41, [(0, .ref 23), (1, .int (nI (i))), (2, .int (nI (w))), (3, .int (nI (e ((32 + (16 * i)) + 10))))], [.int (nI (w)), .int (nI (32 * (e ((32 + (16 * i)) + 10))))])) (h' := (Wd C e P Q m N R t Z)) (fun _ _ => rfl) ?_
      refine eR.nadd rfl ?_
      refine eR.step 1 (F' := (44, [(0, .ref 23), (1, .int (nI (i))), (2, .int (nI (w))), (3, .int (nI (e ((32 + (16 * i)) + 10))))], [.int (nI 6), .int (nI ((32 * (e ((32 + (16 * i)) + 10))) + w))])) (h' := (Wd C e P Q m N R t Z)) (fun _ _ => rfl) ?_
      refine eR.nsub rfl (by omega) ?_
      exact eR.ret rfl rfl rfl
theorem m_blk {cm sm fr lo : Nat} {C : gC} {e : Nat → Nat} {P Q : gT} {m : Nat} {N : Nat → Nat} {R : gS} {t : Nat} {Z : mj_H} (hlo : 43 ≤ lo) {i : Nat} (hi : i < 16) {w : Nat} (hw : w < 38) (hx : e (32 + (16 * i) + 10) < 64)  : eE mm_P cm sm (fr + 3) lo 118 [.ref 23, .int (nI (i)), .int (nI (w))] (Wd C e P Q m N R t Z) (.inl (some (.int (nI (bo e i w)))), (Wd C e P Q m N R t Z)) := by
  refine eE.of ?_
  have hp := po_lt hi hw hx
  refine eR.step 3 (F' := (3, [(0, .ref 23), (1, .int (nI (i))), (2, .int (nI (w)))], [.int (nI (w)), .int (nI (i)), .ref 23])) (h' := (Wd C e P Q m N R t Z)) (fun _ _ => rfl) ?_
  refine eR.call (k' := 115) (as := [.ref 23, .int (nI (i)), .int (nI (w))]) (rest := []) (v := some (.int (nI (po e i w)))) (h1 := (Wd C e P Q m N R t Z)) rfl rfl rfl rfl (eg (Nat.le_of_ble_eq_true rfl) (show 23 ≤ lo by omega) (Nat.le_of_ble_eq_true rfl)) (m_place (show 20 ≤ lo - 23 by omega) hi hw hx) ?_
  refine eR.step 2 (F' := (8, [(0, .ref 23), (1, .int (nI (i))), (2, .int (nI (w))), (3, .int (nI (po e i w)))], [.int (nI (po e i w))])) (h' := (Wd C e P Q m N R t Z)) (fun _ _ => rfl) ?_
  rw [po_bo]
  by_cases h : po e i w = 0
  · refine eR.ifc rfl false ((nc_ne (b := 0) (by omega) (by decide)).trans (decide_eq_false (by omega))) ?_
    rw [if_pos h]
    refine eR.step 2 (F' := (21, [(0, .ref 23), (1, .int (nI (i))), (2, .int (nI (w))), (3, .int (nI (po e i w)))], [.int (nI 0)])) (h' := (Wd C e P Q m N R t Z)) (fun _ _ => rfl) ?_
    exact eR.ret rfl rfl rfl
  · refine eR.ifc rfl true ((nc_ne (b := 0) (by omega) (by decide)).trans (decide_eq_true (by omega))) ?_
    rw [if_neg h]
    refine eR.step 3 (F' := (20, [(0, .ref 23), (1, .int (nI (i))), (2, .int (nI (w))), (3, .int (nI (po e i w)))], [.int (nI (po e i w)), .ref 24])) (h' := (Wd C e P Q m N R t Z)) (fun _ _ => rfl) ?_
    refine eR.ld24 rfl (by omega) ?_
    exact eR.ret rfl rfl rfl
theorem m_byte {cm sm fr lo : Nat} {C : gC} {e : Nat → Nat} {P Q : gT} {m : Nat} {N : Nat → Nat} {R : gS} {t : Nat} {Z : mj_H} (hlo : 66 ≤ lo) {i : Nat} (hi : i < 16) {f : Nat} (hf : f < 1216) (hx : e (32 + (16 * i) + 10) < 64) (hb : bo e i (f / 32) < 64) : eE mm_P cm sm (fr + 4) lo 155 [.ref 23, .int (nI (i)), .int (nI (f))] (Wd C e P Q m N R t Z) (.inl (some (.int (nI (gy e i f)))), (Wd C e P Q m N R t Z)) := by
  refine eE.of ?_
  refine eR.step 4 (F' := (5, [(0, .ref 23), (1, .int (nI (i))), (2, .int (nI (f)))], [.int (nI 32), .int (nI (f)), .int (nI (i)), .ref 23])) (h' := (Wd C e P Q m N R t Z)) (fun _ _ => rfl) ?_
  refine eR.ndiv rfl (by omega) (by decide) (by decide) ?_
  refine eR.call (k' := 118) (as := [.ref 23, .int (nI (i)), .int (nI (f / 32))]) (rest := []) (v := some (.int (nI (bo e i (f / 32))))) (h1 := (Wd C e P Q m N R t Z)) rfl rfl rfl rfl (eg (Nat.le_of_ble_eq_true rfl) (show 23 ≤ lo by omega) (Nat.le_of_ble_eq_true rfl)) (m_blk (show 43 ≤ lo - 23 by omega) hi (by omega) hx) ?_
  refine eR.step 2 (F' := (11, [(0, .ref 23), (1, .int (nI (i))), (2, .int (nI (f))), (3, .int (nI (bo e i (f / 32))))], [.int (nI (bo e i (f / 32)))])) (h' := (Wd C e P Q m N R t Z)) (fun _ _ => rfl) ?_
  unfold gy
  by_cases h : bo e i (f / 32) = 0
  · refine eR.ifc rfl false ((nc_ne (b := 0) (by omega) (by decide)).trans (decide_eq_false (by omega))) ?_
    rw [if_pos h]
    refine eR.step 2 (F' := (32, [(0, .ref 23), (1, .int (nI (i))), (2, .int (nI (f))), (3, .int (nI (bo e i (f / 32))))], [.int (nI 0)])) (h' := (Wd C e P Q m N R t Z)) (fun _ _ => rfl) ?_
    exact eR.ret rfl rfl rfl
  · refine eR.ifc rfl true ((nc_ne (b := 0) (by omega) (by decide)).trans (decide_eq_true (by omega))) ?_
    rw [if_neg h, Nat.mul_comm (bo e i (f / 32)) 32]
    refine eR.step 4 (F' := (25, [(0, .ref 23), (1, .int (nI (i))), (2, .int (nI (f))), (3, .int (nI (bo e i (f / 32))))], [.int (nI (bo e i (f / 32))), .int (nI 32), .ref 24])) (h' := (Wd C e P Q m N R t Z)) (fun _ _ => rfl) ?_
    refine eR.nmul rfl ?_
    refine eR.step 2 (F' := (29, [(0, .ref 23), (1, .int (nI (i))), (2, .int (nI (f))), (3, .int (nI (bo e i (f / 32))))], [.int (nI 32), .int (nI (f)), .int (nI (32 * (bo e i (f / 32)))), .ref 24])) (h' := (Wd C e P Q m N R t Z)) (fun _ _ => rfl) ?_
    refine eR.nrem rfl (by omega) (by decide) (by decide) ?_
    refine eR.nadd rfl ?_
    refine eR.ld24 rfl (by omega) ?_
    exact eR.ret rfl rfl rfl

