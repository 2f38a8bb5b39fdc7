theorem pI_len (t : Nat → Nat) (n : Nat) : ∀ (k c m : Nat) (N : Nat → Nat), 2 * m + 1 + c ≤ k → (pI t n k c m N).1 = true → 2 * (pI t n k c m N).2.1 ≤ k + n := by
  induction n with
  | zero =>
    intro k c m N h hp
    rw [pI] at hp ⊢
    by_cases a : c = 0
    · rw [if_pos a] at hp; exact Bool.noConfusion hp
    · rw [if_neg a]; show 2 * (m + 1) ≤ k + 0; omega
  | succ n ih =>
    intro k c m N h hp
    rw [pI] at hp ⊢
    by_cases a : 97 ≤ t k ∧ t k ≤ 122
    · rw [if_pos a] at hp ⊢
      by_cases b : c = 7
      · rw [if_pos b] at hp; exact Bool.noConfusion hp
      · rw [if_neg b] at hp ⊢
        have := ih (k + 1) (c + 1) m _ (by omega) hp; omega
    · rw [if_neg a] at hp ⊢
      by_cases b : c = 0
      · rw [if_pos b] at hp; exact Bool.noConfusion hp
      · rw [if_neg b] at hp ⊢
        by_cases d : t k = 47
        · rw [if_pos d] at hp ⊢
          have := ih (k + 1) 0 (m + 1) _ (by omega) hp; omega
        · rw [if_neg d] at hp; exact Bool.noConfusion hp
theorem pP_len {t : Nat → Nat} {l : Nat} {N : Nat → Nat} (hl : l ≤ 40) (h : (pP t l N).1 = true) : (pP t l N).2.1 ≤ 20 := by
  unfold pP at h ⊢
  by_cases a : l = 1
  · rw [if_pos a]; show 0 ≤ 20; omega
  · rw [if_neg a] at h ⊢
    by_cases b : l = 0
    · rw [if_pos b]; show 0 ≤ 20; omega
    · rw [if_neg b] at h ⊢
      by_cases c : t 0 = 47
      · rw [if_pos c] at h ⊢
        have := pI_len t (l - 1) 1 0 0 _ (by omega) h; omega
      · rw [if_neg c]; show 0 ≤ 20; omega
theorem cz_256 {N : Nat → Nat} (h : ∀ k, N k < 256) (a n : Nat) : ∀ k, cz N a n k < 256 := by
  intro k; have := h k; unfold cz; split <;> omega
theorem pI_N (t : Nat → Nat) (n : Nat) : ∀ (k c m : Nat) (N : Nat → Nat), (∀ k, N k < 256) → ∀ j, (pI t n k c m N).2.2 j < 256 := by
  induction n with
  | zero =>
    intro k c m N h j
    rw [pI]
    split
    · exact h j
    · exact h j
  | succ n ih =>
    intro k c m N h j
    rw [pI]
    by_cases a : 97 ≤ t k ∧ t k ≤ 122
    · rw [if_pos a]
      by_cases b : c = 7
      · rw [if_pos b]; exact h j
      · rw [if_neg b]; exact ih _ _ _ _ (ut_lt h (by omega)) j
    · rw [if_neg a]
      by_cases b : c = 0
      · rw [if_pos b]; exact h j
      · rw [if_neg b]
        by_cases d : t k = 47
        · rw [if_pos d]; exact ih _ _ _ _ (cz_256 h _ _) j
        · rw [if_neg d]; exact h j
theorem pP_N {t : Nat → Nat} {l : Nat} {N : Nat → Nat} (h : ∀ k, N k < 256) : ∀ j, (pP t l N).2.2 j < 256 := by
  intro j
  unfold pP
  split
  · exact h j
  · split
    · exact h j
    · split
      · exact pI_N _ _ _ _ _ _ (cz_256 h _ _) j
      · exact h j
theorem qV.gD {e : Nat → Nat} (V : qV e) {p : Nat} (hp : p < 16) (hk : e (32 + (16 * p)) = 2) : gD e p := by
  have r := V.R.dr p hp hk
  refine ⟨hp, r.2.1, r.2.2.1, by omega, fun w hw => ?_⟩
  have b := V.B.b1 p w hp (by omega)
  rw [qb_lo _ _ _ hw] at b
  omega
theorem ld_16 {e : Nat → Nat} (V : qV e) (N : Nat → Nat) (k : Nat) : ld e N k < 16 := by
  rcases ld_ok V N k with h | h
  · rw [h]; omega
  · exact h.1
theorem ld_no {e : Nat → Nat} (V : qV e) (N : Nat → Nat) (k : Nat) (h : ld e N k = 0) : ∀ q, ld e N (k + q) = 0 := by
  intro q
  induction q with
  | zero => exact h
  | succ q ih =>
    rw [← Nat.add_assoc, ld, ih, if_neg (by have := V.k00; omega)]
theorem ld_s (e N : Nat → Nat) (k : Nat) : ld e N (k + 1) = if e (32 + (16 * ld e N k)) = 2 then (if fd e (ld e N k) (fun q => N (7 * k + q)) 2 (sn e (ld e N k) - 2) = 0 then 0 else si e (ld e N k) (fd e (ld e N k) (fun q => N (7 * k + q)) 2 (sn e (ld e N k) - 2))) else 0 := by rw [ld]
theorem fd_24 {e : Nat → Nat} {p : Nat} {nm : Nat → Nat} (h2 : 2 ≤ sn e p) (h : ¬ fd e p nm 2 (sn e p - 2) = 0) : fd e p nm 2 (sn e p - 2) < 24 := by
  have := fd_spec e p nm (sn e p - 2) 2 (by omega) h
  have := sn_le e p
  omega
theorem l_lead {cm sm fr lo : Nat} {C : gC} {e : Nat → Nat} {P Q : gT} {m : Nat} {N : Nat → Nat} {R : gS} {t : Nat} {Z : mj_H} (hlo : 112 ≤ lo) (V : qV e) (hN : ∀ k, N k < 256) {n : Nat} (hn : n ≤ 20) : ∀ (q k : Nat) (z : Int32), k + q = n → eR mm_P cm sm (fr + 5) lo 127 (4, [(0, .ref 23), (1, .int (nI (n))), (2, .int (nI (ld e N k))), (3, .int (nI (k))), (4, .int (z))], []) (Wd C e P Q m N R t Z) (.inl (some (.int (nI (ld e N n)))), (Wd C e P Q m N R t Z))
  | 0, k, z, h1 => by
    have e0 : n = k := by omega
    subst e0
    refine eR.step 2 (F' := (6, [(0, .ref 23), (1, .int (nI (n))), (2, .int (nI (ld e N n))), (3, .int (nI (n))), (4, .int (z))], [.int (nI (n)), .int (nI (n))])) (h' := (Wd C e P Q m N R t Z)) (fun _ _ => rfl) ?_
    refine eR.icmp rfl true ((nc_ge (by omega) (by omega)).trans (decide_eq_true (by omega))) ?_
    refine eR.step 1 (F' := (63, [(0, .ref 23), (1, .int (nI (n))), (2, .int (nI (ld e N n))), (3, .int (nI (n))), (4, .int (z))], [.int (nI (ld e N n))])) (h' := (Wd C e P Q m N R t Z)) (fun _ _ => rfl) ?_
    exact eR.ret rfl rfl rfl
  | q + 1, k, z, h1 => by
    have h16 := ld_16 V N k
    have h6 := V.B.dk.1 (32 + (16 * ld e N k))
    refine eR.step 2 (F' := (6, [(0, .ref 23), (1, .int (nI (n))), (2, .int (nI (ld e N k))), (3, .int (nI (k))), (4, .int (z))], [.int (nI (n)), .int (nI (k))])) (h' := (Wd C e P Q m N R t Z)) (fun _ _ => rfl) ?_
    refine eR.icmp rfl false ((nc_ge (by omega) (by omega)).trans (decide_eq_false (by omega))) ?_
    refine eR.step 1 (F' := (10, [(0, .ref 23), (1, .int (nI (n))), (2, .int (nI (ld e N k))), (3, .int (nI (k))), (4, .int (z))], [.int (nI (ld e N k))])) (h' := (Wd C e P Q m N R t Z)) (fun _ _ => rfl) ?_
    by_cases h0 : ld e N k = 0
    · refine eR.ifc rfl true ((nc_eq (b := 0) (by omega) (by decide)).trans (decide_eq_true (by omega))) ?_
      have hz := ld_no V N k h0 (q + 1)
      rw [h1] at hz
      rw [hz, h0]
      refine eR.step 1 (F' := (63, [(0, .ref 23), (1, .int (nI (n))), (2, .int (nI 0)), (3, .int (nI (k))), (4, .int (z))], [.int (nI 0)])) (h' := (Wd C e P Q m N R t Z)) (fun _ _ => rfl) ?_
      exact eR.ret rfl rfl rfl
    · refine eR.ifc rfl false ((nc_eq (b := 0) (by omega) (by decide)).trans (decide_eq_false (by omega))) ?_
      refine eR.step 2 (F' := (15, [(0, .ref 23), (1, .int (nI (n))), (2, .int (nI (ld e N k))), (3, .int (nI (k))), (4, .int (z))], [.int (nI (ld e N k)), .ref 23])) (h' := (Wd C e P Q m N R t Z)) (fun _ _ => rfl) ?_
      refine eR.call (k' := 128) (as := [.ref 23, .int (nI (ld e N k))]) (rest := []) (v := some (.int (nI (e (32 + (16 * ld e N k)))))) (h1 := (Wd C e P Q m N R t Z)) rfl rfl rfl rfl (eg (Nat.le_of_ble_eq_true rfl) (show 21 ≤ lo by omega) (Nat.le_of_ble_eq_true rfl)) (m_kind (show 20 ≤ lo - 21 by omega) h16) ?_
      refine eR.step 1 (F' := (19, [(0, .ref 23), (1, .int (nI (n))), (2, .int (nI (ld e N k))), (3, .int (nI (k))), (4, .int (z))], [.int (nI 2), .int (nI (e (32 + (16 * ld e N k))))])) (h' := (Wd C e P Q m N R t Z)) (fun _ _ => rfl) ?_
      have hld := ld_s e N k
      by_cases h2 : e (32 + (16 * ld e N k)) = 2
      · have hD := V.gD h16 h2
        rw [if_pos h2] at hld
        refine eR.icmp rfl false ((nc_ne (by omega) (by omega)).trans (decide_eq_false (by omega))) ?_
        refine eR.step 3 (F' := (25, [(0, .ref 23), (1, .int (nI (n))), (2, .int (nI (ld e N k))), (3, .int (nI (k))), (4, .int (z))], [.int (nI (k)), .int (nI (ld e N k)), .ref 23])) (h' := (Wd C e P Q m N R t Z)) (fun _ _ => rfl) ?_
        refine eR.call (k' := 129) (as := [.ref 23, .int (nI (ld e N k)), .int (nI (k))]) (rest := []) (v := some (.int (fi (fd e (ld e N k) (fun q => N (7 * k + q)) 2 (sn e (ld e N k) - 2))))) (h1 := (Wd C e P Q m N R t Z)) rfl rfl rfl rfl (eg (Nat.le_of_ble_eq_true rfl) (show 24 ≤ lo by omega) (Nat.le_of_ble_eq_true rfl)) (m_slotOf (show 88 ≤ lo - 24 by omega) V.B.dk hD (fun k => Nat.lt_trans (hN k) (by decide)) (by omega)) ?_
        refine eR.step 3 (F' := (36, [(0, .ref 23), (1, .int (nI (n))), (2, .int (nI (ld e N k))), (3, .int (nI (k))), (4, .int (fi (fd e (ld e N k) (fun q => N (7 * k + q)) 2 (sn e (ld e N k) - 2))))], [.int (fi (fd e (ld e N k) (fun q => N (7 * k + q)) 2 (sn e (ld e N k) - 2)))])) (h' := (Wd C e P Q m N R t Z)) (fun _ _ => rfl) ?_
        by_cases h3 : fd e (ld e N k) (fun q => N (7 * k + q)) 2 (sn e (ld e N k) - 2) = 0
        · rw [if_pos h3] at hld
          refine eR.ifc rfl false (mc_gi0 h3) ?_
          refine eR.step 4 (F' := (59, [(0, .ref 23), (1, .int (nI (n))), (2, .int (nI 0)), (3, .int (nI (k) + 1)), (4, .int (fi (fd e (ld e N k) (fun q => N (7 * k + q)) 2 (sn e (ld e N k) - 2))))], [])) (h' := (Wd C e P Q m N R t Z)) (fun _ _ => rfl) ?_
          rw [show nI (k) + 1 = nI (k + 1) from nI_add (k) 1]
          refine eR.step 1 (F' := (4, [(0, .ref 23), (1, .int (nI (n))), (2, .int (nI 0)), (3, .int (nI (k + 1))), (4, .int (fi (fd e (ld e N k) (fun q => N (7 * k + q)) 2 (sn e (ld e N k) - 2))))], [])) (h' := (Wd C e P Q m N R t Z)) (fun _ _ => rfl) ?_
          rw [show nI 0 = nI (ld e N (k + 1)) by rw [hld]]
          exact l_lead hlo V hN hn q (k + 1) _ (by omega)
        · rw [if_neg h3] at hld
          have h5 := fd_24 hD.2.2.1 h3
          have hs := sa_2040 hD h5
          refine eR.ifc rfl true (mc_gin h3 (by omega)) ?_
          rw [fi_n h3]
          refine eR.step 5 (F' := (51, [(0, .ref 23), (1, .int (nI (n))), (2, .int (nI (ld e N k))), (3, .int (nI (k))), (4, .int (nI (fd e (ld e N k) (fun q => N (7 * k + q)) 2 (sn e (ld e N k) - 2))))], [.int (nI (fd e (ld e N k) (fun q => N (7 * k + q)) 2 (sn e (ld e N k) - 2))), .int (nI (ld e N k)), .ref 23, .ref 24])) (h' := (Wd C e P Q m N R t Z)) (fun _ _ => rfl) ?_
          refine eR.call (k' := 117) (as := [.ref 23, .int (nI (ld e N k)), .int (nI (fd e (ld e N k) (fun q => N (7 * k + q)) 2 (sn e (ld e N k) - 2)))]) (rest := [.ref 24]) (v := some (.int (nI (sa e (ld e N k) (fd e (ld e N k) (fun q => N (7 * k + q)) 2 (sn e (ld e N k) - 2)))))) (h1 := (Wd C e P Q m N R t Z)) rfl rfl rfl rfl (eg (Nat.le_of_ble_eq_true rfl) (show 22 ≤ lo by omega) (Nat.le_of_ble_eq_true rfl)) (m_slotAt (show 66 ≤ lo - 22 by omega) hD h5) ?_
          refine eR.ld24 rfl (by omega) ?_
          refine eR.step 2 (F' := (59, [(0, .ref 23), (1, .int (nI (n))), (2, .int (nI (e (sa e (ld e N k) (fd e (ld e N k) (fun q => N (7 * k + q)) 2 (sn e (ld e N k) - 2)))))), (3, .int (nI (k) + 1)), (4, .int (nI (fd e (ld e N k) (fun q => N (7 * k + q)) 2 (sn e (ld e N k) - 2))))], [])) (h' := (Wd C e P Q m N R t Z)) (fun _ _ => rfl) ?_
          rw [show nI (k) + 1 = nI (k + 1) from nI_add (k) 1]
          refine eR.step 1 (F' := (4, [(0, .ref 23), (1, .int (nI (n))), (2, .int (nI (e (sa e (ld e N k) (fd e (ld e N k) (fun q => N (7 * k + q)) 2 (sn e (ld e N k) - 2)))))), (3, .int (nI (k + 1))), (4, .int (nI (fd e (ld e N k) (fun q => N (7 * k + q)) 2 (sn e (ld e N k) - 2))))], [])) (h' := (Wd C e P Q m N R t Z)) (fun _ _ => rfl) ?_
          rw [show nI (e (sa e (ld e N k) (fd e (ld e N k) (fun q => N (7 * k + q)) 2 (sn e (ld e N k) - 2)))) = nI (ld e N (k + 1)) by rw [hld]; rfl]
          exact l_lead hlo V hN hn q (k + 1) _ (by omega)
      · rw [if_neg h2] at hld
        refine eR.icmp rfl true ((nc_ne (by omega) (by omega)).trans (decide_eq_true (by omega))) ?_
        refine eR.step 3 (F' := (36, [(0, .ref 23), (1, .int (nI (n))), (2, .int (nI (ld e N k))), (3, .int (nI (k))), (4, .int ((-1 : Int32)))], [.int ((-1 : Int32))])) (h' := (Wd C e P Q m N R t Z)) (fun _ _ => rfl) ?_
        refine eR.ifc rfl false (mc_gi0 (n := 0) rfl) ?_
        refine eR.step 4 (F' := (59, [(0, .ref 23), (1, .int (nI (n))), (2, .int (nI 0)), (3, .int (nI (k) + 1)), (4, .int ((-1 : Int32)))], [])) (h' := (Wd C e P Q m N R t Z)) (fun _ _ => rfl) ?_
        rw [show nI (k) + 1 = nI (k + 1) from nI_add (k) 1]
        refine eR.step 1 (F' := (4, [(0, .ref 23), (1, .int (nI (n))), (2, .int (nI 0)), (3, .int (nI (k + 1))), (4, .int ((-1 : Int32)))], [])) (h' := (Wd C e P Q m N R t Z)) (fun _ _ => rfl) ?_
        rw [show nI 0 = nI (ld e N (k + 1)) by rw [hld]]
        exact l_lead hlo V hN hn q (k + 1) _ (by omega)
theorem l_lead1 {cm sm fr lo : Nat} {C : gC} {e : Nat → Nat} {P Q : gT} {m : Nat} {N : Nat → Nat} {R : gS} {t : Nat} {Z : mj_H} (hlo : 112 ≤ lo) (V : qV e) (hN : ∀ k, N k < 256) {n : Nat} (hn : n ≤ 20) : ∀ (q k : Nat), k + q = n → eR mm_P cm sm (fr + 5) lo 127 (4, [(0, .ref 23), (1, .int (nI (n))), (2, .int (nI (ld e N k))), (3, .int (nI (k)))], []) (Wd C e P Q m N R t Z) (.inl (some (.int (nI (ld e N n)))), (Wd C e P Q m N R t Z))
  | 0, k, h1 => by
    have e0 : n = k := by omega
    subst e0
    refine eR.step 2 (F' := (6, [(0, .ref 23), (1, .int (nI (n))), (2, .int (nI (ld e N n))), (3, .int (nI (n)))], [.int (nI (n)), .int (nI (n))])) (h' := (Wd C e P Q m N R t Z)) (fun _ _ => rfl) ?_
    refine eR.icmp rfl true ((nc_ge (by omega) (by omega)).trans (decide_eq_true (by omega))) ?_
    refine eR.step 1 (F' := (63, [(0, .ref 23), (1, .int (nI (n))), (2, .int (nI (ld e N n))), (3, .int (nI (n)))], [.int (nI (ld e N n))])) (h' := (Wd C e P Q m N R t Z)) (fun _ _ => rfl) ?_
    exact eR.ret rfl rfl rfl
  | q + 1, k, h1 => by
    have h16 := ld_16 V N k
    have h6 := V.B.dk.1 (32 + (16 * ld e N k))
    refine eR.step 2 (F' := (6, [(0, .ref 23), (1, .int (nI (n))), (2, .int (nI (ld e N k))), (3, .int (nI (k)))], [.int (nI (n)), .int (nI (k))])) (h' := (Wd C e P Q m N R t Z)) (fun _ _ => rfl) ?_
    refine eR.icmp rfl false ((nc_ge (by omega) (by omega)).trans (decide_eq_false (by omega))) ?_
    refine eR.step 1 (F' := (10, [(0, .ref 23), (1, .int (nI (n))), (2, .int (nI (ld e N k))), (3, .int (nI (k)))], [.int (nI (ld e N k))])) (h' := (Wd C e P Q m N R t Z)) (fun _ _ => rfl) ?_
    by_cases h0 : ld e N k = 0
    · refine eR.ifc rfl true ((nc_eq (b := 0) (by omega) (by decide)).trans (decide_eq_true (by omega))) ?_
      have hz := ld_no V N k h0 (q + 1)
      rw [h1] at hz
      rw [hz, h0]
      refine eR.step 1 (F' := (63, [(0, .ref 23), (1, .int (nI (n))), (2, .int (nI 0)), (3, .int (nI (k)))], [.int (nI 0)])) (h' := (Wd C e P Q m N R t Z)) (fun _ _ => rfl) ?_
      exact eR.ret rfl rfl rfl
    · refine eR.ifc rfl false ((nc_eq (b := 0) (by omega) (by decide)).trans (decide_eq_false (by omega))) ?_
      refine eR.step 2 (F' := (15, [(0, .ref 23), (1, .int (nI (n))), (2, .int (nI (ld e N k))), (3, .int (nI (k)))], [.int (nI (ld e N k)), .ref 23])) (h' := (Wd C e P Q m N R t Z)) (fun _ _ => rfl) ?_
      refine eR.call (k' := 128) (as := [.ref 23, .int (nI (ld e N k))]) (rest := []) (v := some (.int (nI (e (32 + (16 * ld e N k)))))) (h1 := (Wd C e P Q m N R t Z)) rfl rfl rfl rfl (eg (Nat.le_of_ble_eq_true rfl) (show 21 ≤ lo by omega) (Nat.le_of_ble_eq_true rfl)) (m_kind (show 20 ≤ lo - 21 by omega) h16) ?_
      refine eR.step 1 (F' := (19, [(0, .ref 23), (1, .int (nI (n))), (2, .int (nI (ld e N k))), (3, .int (nI (k)))], [.int (nI 2), .int (nI (e (32 + (16 * ld e N k))))])) (h' := (Wd C e P Q m N R t Z)) (fun _ _ => rfl) ?_
      have hld := ld_s e N k
      by_cases h2 : e (32 + (16 * ld e N k)) = 2
      · have hD := V.gD h16 h2
        rw [if_pos h2] at hld
        refine eR.icmp rfl false ((nc_ne (by omega) (by omega)).trans (decide_eq_false (by omega))) ?_
        refine eR.step 3 (F' := (25, [(0, .ref 23), (1, .int (nI (n))), (2, .int (nI (ld e N k))), (3, .int (nI (k)))], [.int (nI (k)), .int (nI (ld e N k)), .ref 23])) (h' := (Wd C e P Q m N R t Z)) (fun _ _ => rfl) ?_
        refine eR.call (k' := 129) (as := [.ref 23, .int (nI (ld e N k)), .int (nI (k))]) (rest := []) (v := some (.int (fi (fd e (ld e N k) (fun q => N (7 * k + q)) 2 (sn e (ld e N k) - 2))))) (h1 := (Wd C e P Q m N R t Z)) rfl rfl rfl rfl (eg (Nat.le_of_ble_eq_true rfl) (show 24 ≤ lo by omega) (Nat.le_of_ble_eq_true rfl)) (m_slotOf (show 88 ≤ lo - 24 by omega) V.B.dk hD (fun k => Nat.lt_trans (hN k) (by decide)) (by omega)) ?_
        refine eR.step 3 (F' := (36, [(0, .ref 23), (1, .int (nI (n))), (2, .int (nI (ld e N k))), (3, .int (nI (k))), (4, .int (fi (fd e (ld e N k) (fun q => N (7 * k + q)) 2 (sn e (ld e N k) - 2))))], [.int (fi (fd e (ld e N k) (fun q => N (7 * k + q)) 2 (sn e (ld e N k) - 2)))])) (h' := (Wd C e P Q m N R t Z)) (fun _ _ => rfl) ?_
        by_cases h3 : fd e (ld e N k) (fun q => N (7 * k + q)) 2 (sn e (ld e N k) - 2) = 0
        · rw [if_pos h3] at hld
          refine eR.ifc rfl false (mc_gi0 h3) ?_
          refine eR.step 4 (F' := (59, [(0, .ref 23), (1, .int (nI (n))), (2, .int (nI 0)), (3, .int (nI (k) + 1)), (4, .int (fi (fd e (ld e N k) (fun q => N (7 * k + q)) 2 (sn e (ld e N k) - 2))))], [])) (h' := (Wd C e P Q m N R t Z)) (fun _ _ => rfl) ?_
          rw [show nI (k) + 1 = nI (k + 1) from nI_add (k) 1]
          refine eR.step 1 (F' := (4, [(0, .ref 23), (1, .int (nI (n))), (2, .int (nI 0)), (3, .int (nI (k + 1))), (4, .int (fi (fd e (ld e N k) (fun q => N (7 * k + q)) 2 (sn e (ld e N k) - 2))))], [])) (h' := (Wd C e P Q m N R t Z)) (fun _ _ => rfl) ?_
          rw [show nI 0 = nI (ld e N (k + 1)) by rw [hld]]
          exact l_lead hlo V hN hn q (k + 1) _ (by omega)
        · rw [if_neg h3] at hld
          have h5 := fd_24 hD.2.2.1 h3
          have hs := sa_2040 hD h5
          refine eR.ifc rfl true (mc_gin h3 (by omega)) ?_
          rw [fi_n h3]
          refine eR.step 5 (F' := (51, [(0, .ref 23), (1, .int (nI (n))), (2, .int (nI (ld e N k))), (3, .int (nI (k))), (4, .int (nI (fd e (ld e N k) (fun q => N (7 * k + q)) 2 (sn e (ld e N k) - 2))))], [.int (nI (fd e (ld e N k) (fun q => N (7 * k + q)) 2 (sn e (ld e N k) - 2))), .int (nI (ld e N k)), .ref 23, .ref 24])) (h' := (Wd C e P Q m N R t Z)) (fun _ _ => rfl) ?_
          refine eR.call (k' := 117) (as := [.ref 23, .int (nI (ld e N k)), .int (nI (fd e (ld e N k) (fun q => N (7 * k + q)) 2 (sn e (ld e N k) - 2)))]) (rest := [.ref 24]) (v := some (.int (nI (sa e (ld e N k) (fd e (ld e N k) (fun q => N (7 * k + q)) 2 (sn e (ld e N k) - 2)))))) (h1 := (Wd C e P Q m N R t Z)) rfl rfl rfl rfl (eg (Nat.le_of_ble_eq_true rfl) (show 22 ≤ lo by omega) (Nat.le_of_ble_eq_true rfl)) (m_slotAt (show 66 ≤ lo - 22 by omega) hD h5) ?_
          refine eR.ld24 rfl (by omega) ?_
          refine eR.step 2 (F' := (59, [(0, .ref 23), (1, .int (nI (n))), (2, .int (nI (e (sa e (ld e N k) (fd e (ld e N k) (fun q => N (7 * k + q)) 2 (sn e (ld e N k) - 2)))))), (3, .int (nI (k) + 1)), (4, .int (nI (fd e (ld e N k) (fun q => N (7 * k + q)) 2 (sn e (ld e N k) - 2))))], [])) (h' := (Wd C e P Q m N R t Z)) (fun _ _ => rfl) ?_
          rw [show nI (k) + 1 = nI (k + 1) from nI_add (k) 1]
          refine eR.step 1 (F' := (4, [(0, .ref 23), (1, .int (nI (n))), (2, .int (nI (e (sa e (ld e N k) (fd e (ld e N k) (fun q => N (7 * k + q)) 2 (sn e (ld e N k) - 2)))))), (3, .int (nI (k + 1))), (4, .int (nI (fd e (ld e N k) (fun q => N (7 * k + q)) 2 (sn e (ld e N k) - 2))))], [])) (h' := (Wd C e P Q m N R t Z)) (fun _ _ => rfl) ?_
          rw [show nI (e (sa e (ld e N k) (fd e (ld e N k) (fun q => N (7 * k + q)) 2 (sn e (ld e N k) - 2)))) = nI (ld e N (k + 1)) by rw [hld]; rfl]
          exact l_lead hlo V hN hn q (k + 1) _ (by omega)
      · rw [if_neg h2] at hld
        refine eR.icmp rfl true ((nc_ne (by omega) (by omega)).trans (decide_eq_true (by omega))) ?_
        refine eR.step 3 (F' := (36, [(0, .ref 23), (1, .int (nI (n))), (2, .int (nI (ld e N k))), (3, .int (nI (k))), (4, .int ((-1 : Int32)))], [.int ((-1 : Int32))])) (h' := (Wd C e P Q m N R t Z)) (fun _ _ => rfl) ?_
        refine eR.ifc rfl false (mc_gi0 (n := 0) rfl) ?_
        refine eR.step 4 (F' := (59, [(0, .ref 23), (1, .int (nI (n))), (2, .int (nI 0)), (3, .int (nI (k) + 1)), (4, .int ((-1 : Int32)))], [])) (h' := (Wd C e P Q m N R t Z)) (fun _ _ => rfl) ?_
        rw [show nI (k) + 1 = nI (k + 1) from nI_add (k) 1]
        refine eR.step 1 (F' := (4, [(0, .ref 23), (1, .int (nI (n))), (2, .int (nI 0)), (3, .int (nI (k + 1))), (4, .int ((-1 : Int32)))], [])) (h' := (Wd C e P Q m N R t Z)) (fun _ _ => rfl) ?_
        rw [show nI 0 = nI (ld e N (k + 1)) by rw [hld]]
        exact l_lead hlo V hN hn q (k + 1) _ (by omega)
theorem m_lead {cm sm fr lo : Nat} {C : gC} {e : Nat → Nat} {P Q : gT} {m : Nat} {N : Nat → Nat} {R : gS} {t : Nat} {Z : mj_H} (hlo : 112 ≤ lo) (V : qV e) (hN : ∀ k, N k < 256) {n : Nat} (hn : n ≤ 20)  : eE mm_P cm sm (fr + 6) lo 127 [.ref 23, .int (nI (n))] (Wd C e P Q m N R t Z) (.inl (some (.int (nI (ld e N n)))), (Wd C e P Q m N R t Z)) := by
  refine eE.of ?_
  refine eR.step 4 (F' := (4, [(0, .ref 23), (1, .int (nI (n))), (2, .int (nI 1)), (3, .int (nI 0))], [])) (h' := (Wd C e P Q m N R t Z)) (fun _ _ => rfl) ?_
  exact l_lead1 hlo V hN hn n 0 (by omega)
def fo (e : Nat → Nat) (T : gT) (N : Nat → Nat) : Nat := if (pP T.1 T.2 N).1 = true ∧ e 11 = 1 then ld e (pP T.1 T.2 N).2.2 (pP T.1 T.2 N).2.1 else 0
def aj (e : Nat → Nat) (T : gT) (N : Nat → Nat) : Nat := if ((pP T.1 T.2 N).1 = true ∧ 0 < (pP T.1 T.2 N).2.1) ∧ e 11 = 1 then ld e (pP T.1 T.2 N).2.2 ((pP T.1 T.2 N).2.1 - 1) else 0
def ab (e : Nat → Nat) (T : gT) (N : Nat → Nat) : Nat := if e (32 + (16 * aj e T N)) = 2 then aj e T N else 0
def tf (e : Nat → Nat) (i : Nat) : Nat := if e 11 = 1 then (if i = 0 then 2 else 0) else 1
theorem tf_2 {e : Nat → Nat} {i : Nat} (h : e 11 = 1) (hi : i = 0) : tf e i = 2 := by unfold tf; rw [if_pos h, if_pos hi]
theorem tf_0 {e : Nat → Nat} {i : Nat} (h : e 11 = 1) (hi : ¬ i = 0) : tf e i = 0 := by unfold tf; rw [if_pos h, if_neg hi]
theorem tf_1 {e : Nat → Nat} {i : Nat} (h : ¬ e 11 = 1) : tf e i = 1 := by unfold tf; rw [if_neg h]
theorem aj_t {e : Nat → Nat} {T : gT} {N : Nat → Nat} (h : ((pP T.1 T.2 N).1 = true ∧ 0 < (pP T.1 T.2 N).2.1) ∧ e 11 = 1) : aj e T N = ld e (pP T.1 T.2 N).2.2 ((pP T.1 T.2 N).2.1 - 1) := if_pos h
theorem aj_f {e : Nat → Nat} {T : gT} {N : Nat → Nat} (h : ¬ (((pP T.1 T.2 N).1 = true ∧ 0 < (pP T.1 T.2 N).2.1) ∧ e 11 = 1)) : aj e T N = 0 := if_neg h
theorem ab_f {e : Nat → Nat} {T : gT} {N : Nat → Nat} (k00 : e (32 + (16 * 0)) = 0) (h : ¬ (((pP T.1 T.2 N).1 = true ∧ 0 < (pP T.1 T.2 N).2.1) ∧ e 11 = 1)) : ab e T N = 0 := by
  unfold ab
  rw [aj_f h, if_neg (by omega)]
theorem m_found0 {cm sm fr lo : Nat} {C : gC} {e : Nat → Nat} {P Q : gT} {m : Nat} {N : Nat → Nat} {R : gS} {t : Nat} {Z : mj_H} (hlo : 136 ≤ lo) (V : qV e) (hN : ∀ k, N k < 256) (ht : ∀ k, P.1 k < 65536) (hl : P.2 ≤ 40) : eE mm_P cm sm (fr + 7) lo 142 [.ref 23, .int (nI 0)] (Wd C e P Q m N R t Z) (.inl (some (.int (nI (fo e P N)))), (Wd C e (P.1, 0) Q (pP P.1 P.2 N).2.1 (pP P.1 P.2 N).2.2 R (tf e (fo e P N)) Z)) := by
  refine eE.of ?_
  have h11 := V.B.dk.1 11
  refine eR.step 2 (F' := (2, [(0, .ref 23), (1, .int (nI 0))], [.int (nI 0), .ref 23])) (h' := (Wd C e P Q m N R t Z)) (fun _ _ => rfl) ?_
  refine eR.call (k' := 124) (as := [.ref 23, .int (nI 0)]) (rest := []) (v := some (.int (nI (bi (pP P.1 P.2 N).1)))) (h1 := (Wd C e P Q (pP P.1 P.2 N).2.1 (pP P.1 P.2 N).2.2 R t Z)) rfl rfl rfl rfl (eg (Nat.le_of_ble_eq_true rfl) (show 25 ≤ lo by omega) (Nat.le_of_ble_eq_true rfl)) (m_parse0 (show 22 ≤ lo - 25 by omega) ht hl) ?_
  refine eR.step 3 (F' := (8, [(0, .ref 23), (1, .int (nI 0)), (2, .int (nI (bi (pP P.1 P.2 N).1)))], [.int (nI 0), .ref 23])) (h' := (Wd C e P Q (pP P.1 P.2 N).2.1 (pP P.1 P.2 N).2.2 R t Z)) (fun _ _ => rfl) ?_
  refine eR.ifc rfl true rfl ?_
  refine eR.step 1 (F' := (19, [(0, .ref 23), (1, .int (nI 0)), (2, .int (nI (bi (pP P.1 P.2 N).1)))], [.int (nI 0), .ref 23])) (h' := (Wd C e P Q (pP P.1 P.2 N).2.1 (pP P.1 P.2 N).2.2 R t Z)) (fun _ _ => rfl) ?_
  refine eR.sim rfl (F := (22, [(0, .ref 23), (1, .int (nI 0)), (2, .int (nI (bi (pP P.1 P.2 N).1)))], [])) (h' := (Wd C e (P.1, 0) Q (pP P.1 P.2 N).2.1 (pP P.1 P.2 N).2.2 R t Z)) (by rfl) ?_
  refine eR.step 2 (F' := (24, [(0, .ref 23), (1, .int (nI 0)), (2, .int (nI (bi (pP P.1 P.2 N).1)))], [.int (nI 0), .ref 23])) (h' := (Wd C e (P.1, 0) Q (pP P.1 P.2 N).2.1 (pP P.1 P.2 N).2.2 R t Z)) (fun _ _ => rfl) ?_
  refine eR.ifc rfl true rfl ?_
  refine eR.step 2 (F' := (35, [(0, .ref 23), (1, .int (nI 0)), (2, .int (nI (bi (pP P.1 P.2 N).1)))], [.int (nI (Q.2)), .ref 23])) (h' := (Wd C e (P.1, 0) Q (pP P.1 P.2 N).2.1 (pP P.1 P.2 N).2.2 R t Z)) (fun _ _ => rfl) ?_
  refine eR.sim rfl (F := (38, [(0, .ref 23), (1, .int (nI 0)), (2, .int (nI (bi (pP P.1 P.2 N).1)))], [])) (h' := (Wd C e (P.1, 0) (Q.1, Q.2) (pP P.1 P.2 N).2.1 (pP P.1 P.2 N).2.2 R t Z)) (by rfl) ?_
  show eR _ _ _ _ _ _ _ (Wd C e (P.1, 0) Q (pP P.1 P.2 N).2.1 (pP P.1 P.2 N).2.2 R t Z) _
  refine eR.step 1 (F' := (39, [(0, .ref 23), (1, .int (nI 0)), (2, .int (nI (bi (pP P.1 P.2 N).1)))], [.int (nI (bi (pP P.1 P.2 N).1))])) (h' := (Wd C e (P.1, 0) Q (pP P.1 P.2 N).2.1 (pP P.1 P.2 N).2.2 R t Z)) (fun _ _ => rfl) ?_
  unfold fo tf
  by_cases h1 : (pP P.1 P.2 N).1 = true
  · refine eR.ifc rfl false (mb_et h1) ?_
    refine eR.step 1 (F' := (43, [(0, .ref 23), (1, .int (nI 0)), (2, .int (nI (bi (pP P.1 P.2 N).1)))], [.ref 23])) (h' := (Wd C e (P.1, 0) Q (pP P.1 P.2 N).2.1 (pP P.1 P.2 N).2.2 R t Z)) (fun _ _ => rfl) ?_
    refine eR.call (k' := 126) (as := [.ref 23]) (rest := []) (v := some (.int (nI (bi (decide (e 11 = 1)))))) (h1 := (Wd C e (P.1, 0) Q (pP P.1 P.2 N).2.1 (pP P.1 P.2 N).2.2 R t Z)) rfl rfl rfl rfl (eg (Nat.le_of_ble_eq_true rfl) (show 20 ≤ lo by omega) (Nat.le_of_ble_eq_true rfl)) (m_clean V.B.dk) ?_
    by_cases h2 : e 11 = 1
    · have h16 := ld_16 V (pP P.1 P.2 N).2.2 (pP P.1 P.2 N).2.1
      rw [if_pos ⟨h1, h2⟩, if_pos h2]
      refine eR.ifc rfl false (mb_et (decide_eq_true h2)) ?_
      refine eR.step 3 (F' := (54, [(0, .ref 23), (1, .int (nI 0)), (2, .int (nI (bi (pP P.1 P.2 N).1)))], [.int (nI ((pP P.1 P.2 N).2.1)), .ref 23])) (h' := (Wd C e (P.1, 0) Q (pP P.1 P.2 N).2.1 (pP P.1 P.2 N).2.2 R t Z)) (fun _ _ => rfl) ?_
      refine eR.call (k' := 127) (as := [.ref 23, .int (nI ((pP P.1 P.2 N).2.1))]) (rest := []) (v := some (.int (nI (ld e (pP P.1 P.2 N).2.2 (pP P.1 P.2 N).2.1)))) (h1 := (Wd C e (P.1, 0) Q (pP P.1 P.2 N).2.1 (pP P.1 P.2 N).2.2 R t Z)) rfl rfl rfl rfl (eg (Nat.le_of_ble_eq_true rfl) (show 24 ≤ lo by omega) (Nat.le_of_ble_eq_true rfl)) (m_lead (show 112 ≤ lo - 24 by omega) V (pP_N hN) (pP_len hl h1)) ?_
      refine eR.step 4 (F' := (64, [(0, .ref 23), (1, .int (nI 0)), (2, .int (nI (bi (pP P.1 P.2 N).1))), (3, .int (nI (ld e (pP P.1 P.2 N).2.2 (pP P.1 P.2 N).2.1)))], [.ref 23, .ref 23])) (h' := (Wd C e (P.1, 0) Q (pP P.1 P.2 N).2.1 (pP P.1 P.2 N).2.2 R t Z)) (fun _ _ => rfl) ?_
      refine eR.call (k' := 126) (as := [.ref 23]) (rest := [.ref 23]) (v := some (.int (nI (bi (decide (e 11 = 1)))))) (h1 := (Wd C e (P.1, 0) Q (pP P.1 P.2 N).2.1 (pP P.1 P.2 N).2.2 R t Z)) rfl rfl rfl rfl (eg (Nat.le_of_ble_eq_true rfl) (show 20 ≤ lo by omega) (Nat.le_of_ble_eq_true rfl)) (m_clean V.B.dk) ?_
      refine eR.ifc rfl true (mb_nt (decide_eq_true h2)) ?_
      refine eR.step 1 (F' := (75, [(0, .ref 23), (1, .int (nI 0)), (2, .int (nI (bi (pP P.1 P.2 N).1))), (3, .int (nI (ld e (pP P.1 P.2 N).2.2 (pP P.1 P.2 N).2.1)))], [.int (nI (ld e (pP P.1 P.2 N).2.2 (pP P.1 P.2 N).2.1)), .ref 23])) (h' := (Wd C e (P.1, 0) Q (pP P.1 P.2 N).2.1 (pP P.1 P.2 N).2.2 R t Z)) (fun _ _ => rfl) ?_
      by_cases h3 : ld e (pP P.1 P.2 N).2.2 (pP P.1 P.2 N).2.1 = 0
      · rw [if_pos h3]
        refine eR.ifc rfl false ((nc_ne (b := 0) (by omega) (by decide)).trans (decide_eq_false (by omega))) ?_
        refine eR.step 2 (F' := (83, [(0, .ref 23), (1, .int (nI 0)), (2, .int (nI (bi (pP P.1 P.2 N).1))), (3, .int (nI (ld e (pP P.1 P.2 N).2.2 (pP P.1 P.2 N).2.1)))], [.int (nI 2), .ref 23])) (h' := (Wd C e (P.1, 0) Q (pP P.1 P.2 N).2.1 (pP P.1 P.2 N).2.2 R t Z)) (fun _ _ => rfl) ?_
        refine eR.sim rfl (F := (86, [(0, .ref 23), (1, .int (nI 0)), (2, .int (nI (bi (pP P.1 P.2 N).1))), (3, .int (nI (ld e (pP P.1 P.2 N).2.2 (pP P.1 P.2 N).2.1)))], [])) (h' := (Wd C e (P.1, 0) Q (pP P.1 P.2 N).2.1 (pP P.1 P.2 N).2.2 R 2 Z)) (by rfl) ?_
        refine eR.step 1 (F' := (87, [(0, .ref 23), (1, .int (nI 0)), (2, .int (nI (bi (pP P.1 P.2 N).1))), (3, .int (nI (ld e (pP P.1 P.2 N).2.2 (pP P.1 P.2 N).2.1)))], [.int (nI (ld e (pP P.1 P.2 N).2.2 (pP P.1 P.2 N).2.1))])) (h' := (Wd C e (P.1, 0) Q (pP P.1 P.2 N).2.1 (pP P.1 P.2 N).2.2 R 2 Z)) (fun _ _ => rfl) ?_
        exact eR.ret rfl rfl rfl
      · rw [if_neg h3]
        refine eR.ifc rfl true ((nc_ne (b := 0) (by omega) (by decide)).trans (decide_eq_true (by omega))) ?_
        refine eR.step 1 (F' := (83, [(0, .ref 23), (1, .int (nI 0)), (2, .int (nI (bi (pP P.1 P.2 N).1))), (3, .int (nI (ld e (pP P.1 P.2 N).2.2 (pP P.1 P.2 N).2.1)))], [.int (nI 0), .ref 23])) (h' := (Wd C e (P.1, 0) Q (pP P.1 P.2 N).2.1 (pP P.1 P.2 N).2.2 R t Z)) (fun _ _ => rfl) ?_
        refine eR.sim rfl (F := (86, [(0, .ref 23), (1, .int (nI 0)), (2, .int (nI (bi (pP P.1 P.2 N).1))), (3, .int (nI (ld e (pP P.1 P.2 N).2.2 (pP P.1 P.2 N).2.1)))], [])) (h' := (Wd C e (P.1, 0) Q (pP P.1 P.2 N).2.1 (pP P.1 P.2 N).2.2 R 0 Z)) (by rfl) ?_
        refine eR.step 1 (F' := (87, [(0, .ref 23), (1, .int (nI 0)), (2, .int (nI (bi (pP P.1 P.2 N).1))), (3, .int (nI (ld e (pP P.1 P.2 N).2.2 (pP P.1 P.2 N).2.1)))], [.int (nI (ld e (pP P.1 P.2 N).2.2 (pP P.1 P.2 N).2.1))])) (h' := (Wd C e (P.1, 0) Q (pP P.1 P.2 N).2.1 (pP P.1 P.2 N).2.2 R 0 Z)) (fun _ _ => rfl) ?_
        exact eR.ret rfl rfl rfl
    · rw [if_neg (fun z => h2 z.2), if_neg h2]
      refine eR.ifc rfl true (mb_ef (fun z => h2 (of_decide_eq_true z))) ?_
      refine eR.step 4 (F' := (64, [(0, .ref 23), (1, .int (nI 0)), (2, .int (nI (bi (pP P.1 P.2 N).1))), (3, .int (nI 0))], [.ref 23, .ref 23])) (h' := (Wd C e (P.1, 0) Q (pP P.1 P.2 N).2.1 (pP P.1 P.2 N).2.2 R t Z)) (fun _ _ => rfl) ?_
      refine eR.call (k' := 126) (as := [.ref 23]) (rest := [.ref 23]) (v := some (.int (nI (bi (decide (e 11 = 1)))))) (h1 := (Wd C e (P.1, 0) Q (pP P.1 P.2 N).2.1 (pP P.1 P.2 N).2.2 R t Z)) rfl rfl rfl rfl (eg (Nat.le_of_ble_eq_true rfl) (show 20 ≤ lo by omega) (Nat.le_of_ble_eq_true rfl)) (m_clean V.B.dk) ?_
      refine eR.ifc rfl false (mb_nf (fun z => h2 (of_decide_eq_true z))) ?_
      refine eR.step 2 (F' := (83, [(0, .ref 23), (1, .int (nI 0)), (2, .int (nI (bi (pP P.1 P.2 N).1))), (3, .int (nI 0))], [.int (nI 1), .ref 23])) (h' := (Wd C e (P.1, 0) Q (pP P.1 P.2 N).2.1 (pP P.1 P.2 N).2.2 R t Z)) (fun _ _ => rfl) ?_
      refine eR.sim rfl (F := (86, [(0, .ref 23), (1, .int (nI 0)), (2, .int (nI (bi (pP P.1 P.2 N).1))), (3, .int (nI 0))], [])) (h' := (Wd C e (P.1, 0) Q (pP P.1 P.2 N).2.1 (pP P.1 P.2 N).2.2 R 1 Z)) (by rfl) ?_
      refine eR.step 1 (F' := (87, [(0, .ref 23), (1, .int (nI 0)), (2, .int (nI (bi (pP P.1 P.2 N).1))), (3, .int (nI 0))], [.int (nI 0)])) (h' := (Wd C e (P.1, 0) Q (pP P.1 P.2 N).2.1 (pP P.1 P.2 N).2.2 R 1 Z)) (fun _ _ => rfl) ?_
      exact eR.ret rfl rfl rfl
  · rw [if_neg (fun z => h1 z.1), if_pos rfl]
    refine eR.ifc rfl true (mb_ef h1) ?_
    refine eR.step 4 (F' := (64, [(0, .ref 23), (1, .int (nI 0)), (2, .int (nI (bi (pP P.1 P.2 N).1))), (3, .int (nI 0))], [.ref 23, .ref 23])) (h' := (Wd C e (P.1, 0) Q (pP P.1 P.2 N).2.1 (pP P.1 P.2 N).2.2 R t Z)) (fun _ _ => rfl) ?_
    refine eR.call (k' := 126) (as := [.ref 23]) (rest := [.ref 23]) (v := some (.int (nI (bi (decide (e 11 = 1)))))) (h1 := (Wd C e (P.1, 0) Q (pP P.1 P.2 N).2.1 (pP P.1 P.2 N).2.2 R t Z)) rfl rfl rfl rfl (eg (Nat.le_of_ble_eq_true rfl) (show 20 ≤ lo by omega) (Nat.le_of_ble_eq_true rfl)) (m_clean V.B.dk) ?_
    by_cases h2 : e 11 = 1
    · rw [if_pos h2]
      refine eR.ifc rfl true (mb_nt (decide_eq_true h2)) ?_
      refine eR.step 1 (F' := (75, [(0, .ref 23), (1, .int (nI 0)), (2, .int (nI (bi (pP P.1 P.2 N).1))), (3, .int (nI 0))], [.int (nI 0), .ref 23])) (h' := (Wd C e (P.1, 0) Q (pP P.1 P.2 N).2.1 (pP P.1 P.2 N).2.2 R t Z)) (fun _ _ => rfl) ?_
      refine eR.ifc rfl false rfl ?_
      refine eR.step 2 (F' := (83, [(0, .ref 23), (1, .int (nI 0)), (2, .int (nI (bi (pP P.1 P.2 N).1))), (3, .int (nI 0))], [.int (nI 2), .ref 23])) (h' := (Wd C e (P.1, 0) Q (pP P.1 P.2 N).2.1 (pP P.1 P.2 N).2.2 R t Z)) (fun _ _ => rfl) ?_
      refine eR.sim rfl (F := (86, [(0, .ref 23), (1, .int (nI 0)), (2, .int (nI (bi (pP P.1 P.2 N).1))), (3, .int (nI 0))], [])) (h' := (Wd C e (P.1, 0) Q (pP P.1 P.2 N).2.1 (pP P.1 P.2 N).2.2 R 2 Z)) (by rfl) ?_
      refine eR.step 1 (F' := (87, [(0, .ref 23), (1, .int (nI 0)), (2, .int (nI (bi (pP P.1 P.2 N).1))), (3, .int (nI 0))], [.int (nI 0)])) (h' := (Wd C e (P.1, 0) Q (pP P.1 P.2 N).2.1 (pP P.1 P.2 N).2.2 R 2 Z)) (fun _ _ => rfl) ?_
      exact eR.ret rfl rfl rfl
    · rw [if_neg h2]
      refine eR.ifc rfl false (mb_nf (fun z => h2 (of_decide_eq_true z))) ?_
      refine eR.step 2 (F' := (83, [(0, .ref 23), (1, .int (nI 0)), (2, .int (nI (bi (pP P.1 P.2 N).1))), (3, .int (nI 0))], [.int (nI 1), .ref 23])) (h' := (Wd C e (P.1, 0) Q (pP P.1 P.2 N).2.1 (pP P.1 P.2 N).2.2 R t Z)) (fun _ _ => rfl) ?_
      refine eR.sim rfl (F := (86, [(0, .ref 23), (1, .int (nI 0)), (2, .int (nI (bi (pP P.1 P.2 N).1))), (3, .int (nI 0))], [])) (h' := (Wd C e (P.1, 0) Q (pP P.1 P.2 N).2.1 (pP P.1 P.2 N).2.2 R 1 Z)) (by rfl) ?_
      refine eR.step 1 (F' := (87, [(0, .ref 23), (1, .int (nI 0)), (2, .int (nI (bi (pP P.1 P.2 N).1))), (3, .int (nI 0))], [.int (nI 0)])) (h' := (Wd C e (P.1, 0) Q (pP P.1 P.2 N).2.1 (pP P.1 P.2 N).2.2 R 1 Z)) (fun _ _ => rfl) ?_
      exact eR.ret rfl rfl rfl
theorem m_found1 {cm sm fr lo : Nat} {C : gC} {e : Nat → Nat} {P Q : gT} {m : Nat} {N : Nat → Nat} {R : gS} {t : Nat} {Z : mj_H} (hlo : 136 ≤ lo) (V : qV e) (hN : ∀ k, N k < 256) (ht : ∀ k, Q.1 k < 65536) (hl : Q.2 ≤ 40) : eE mm_P cm sm (fr + 7) lo 142 [.ref 23, .int (nI 1)] (Wd C e P Q m N R t Z) (.inl (some (.int (nI (fo e Q N)))), (Wd C e P (Q.1, 0) (pP Q.1 Q.2 N).2.1 (pP Q.1 Q.2 N).2.2 R (tf e (fo e Q N)) Z)) := by
  refine eE.of ?_
  have h11 := V.B.dk.1 11
  refine eR.step 2 (F' := (2, [(0, .ref 23), (1, .int (nI 1))], [.int (nI 1), .ref 23])) (h' := (Wd C e P Q m N R t Z)) (fun _ _ => rfl) ?_
  refine eR.call (k' := 124) (as := [.ref 23, .int (nI 1)]) (rest := []) (v := some (.int (nI (bi (pP Q.1 Q.2 N).1)))) (h1 := (Wd C e P Q (pP Q.1 Q.2 N).2.1 (pP Q.1 Q.2 N).2.2 R t Z)) rfl rfl rfl rfl (eg (Nat.le_of_ble_eq_true rfl) (show 25 ≤ lo by omega) (Nat.le_of_ble_eq_true rfl)) (m_parse1 (show 22 ≤ lo - 25 by omega) ht hl) ?_
  refine eR.step 3 (F' := (8, [(0, .ref 23), (1, .int (nI 1)), (2, .int (nI (bi (pP Q.1 Q.2 N).1)))], [.int (nI 1), .ref 23])) (h' := (Wd C e P Q (pP Q.1 Q.2 N).2.1 (pP Q.1 Q.2 N).2.2 R t Z)) (fun _ _ => rfl) ?_
  refine eR.ifc rfl false rfl ?_
  refine eR.step 3 (F' := (19, [(0, .ref 23), (1, .int (nI 1)), (2, .int (nI (bi (pP Q.1 Q.2 N).1)))], [.int (nI (P.2)), .ref 23])) (h' := (Wd C e P Q (pP Q.1 Q.2 N).2.1 (pP Q.1 Q.2 N).2.2 R t Z)) (fun _ _ => rfl) ?_
  refine eR.sim rfl (F := (22, [(0, .ref 23), (1, .int (nI 1)), (2, .int (nI (bi (pP Q.1 Q.2 N).1)))], [])) (h' := (Wd C e (P.1, P.2) Q (pP Q.1 Q.2 N).2.1 (pP Q.1 Q.2 N).2.2 R t Z)) (by rfl) ?_
  refine eR.step 2 (F' := (24, [(0, .ref 23), (1, .int (nI 1)), (2, .int (nI (bi (pP Q.1 Q.2 N).1)))], [.int (nI 1), .ref 23])) (h' := (Wd C e (P.1, P.2) Q (pP Q.1 Q.2 N).2.1 (pP Q.1 Q.2 N).2.2 R t Z)) (fun _ _ => rfl) ?_
  refine eR.ifc rfl false rfl ?_
  refine eR.step 2 (F' := (35, [(0, .ref 23), (1, .int (nI 1)), (2, .int (nI (bi (pP Q.1 Q.2 N).1)))], [.int (nI 0), .ref 23])) (h' := (Wd C e (P.1, P.2) Q (pP Q.1 Q.2 N).2.1 (pP Q.1 Q.2 N).2.2 R t Z)) (fun _ _ => rfl) ?_
  refine eR.sim rfl (F := (38, [(0, .ref 23), (1, .int (nI 1)), (2, .int (nI (bi (pP Q.1 Q.2 N).1)))], [])) (h' := (Wd C e (P.1, P.2) (Q.1, 0) (pP Q.1 Q.2 N).2.1 (pP Q.1 Q.2 N).2.2 R t Z)) (by rfl) ?_
  show eR _ _ _ _ _ _ _ (Wd C e P (Q.1, 0) (pP Q.1 Q.2 N).2.1 (pP Q.1 Q.2 N).2.2 R t Z) _
  refine eR.step 1 (F' := (39, [(0, .ref 23), (1, .int (nI 1)), (2, .int (nI (bi (pP Q.1 Q.2 N).1)))], [.int (nI (bi (pP Q.1 Q.2 N).1))])) (h' := (Wd C e P (Q.1, 0) (pP Q.1 Q.2 N).2.1 (pP Q.1 Q.2 N).2.2 R t Z)) (fun _ _ => rfl) ?_
  unfold fo tf
  by_cases h1 : (pP Q.1 Q.2 N).1 = true
  · refine eR.ifc rfl false (mb_et h1) ?_
    refine eR.step 1 (F' := (43, [(0, .ref 23), (1, .int (nI 1)), (2, .int (nI (bi (pP Q.1 Q.2 N).1)))], [.ref 23])) (h' := (Wd C e P (Q.1, 0) (pP Q.1 Q.2 N).2.1 (pP Q.1 Q.2 N).2.2 R t Z)) (fun _ _ => rfl) ?_
    refine eR.call (k' := 126) (as := [.ref 23]) (rest := []) (v := some (.int (nI (bi (decide (e 11 = 1)))))) (h1 := (Wd C e P (Q.1, 0) (pP Q.1 Q.2 N).2.1 (pP Q.1 Q.2 N).2.2 R t Z)) rfl rfl rfl rfl (eg (Nat.le_of_ble_eq_true rfl) (show 20 ≤ lo by omega) (Nat.le_of_ble_eq_true rfl)) (m_clean V.B.dk) ?_
    by_cases h2 : e 11 = 1
    · have h16 := ld_16 V (pP Q.1 Q.2 N).2.2 (pP Q.1 Q.2 N).2.1
      rw [if_pos ⟨h1, h2⟩, if_pos h2]
      refine eR.ifc rfl false (mb_et (decide_eq_true h2)) ?_
      refine eR.step 3 (F' := (54, [(0, .ref 23), (1, .int (nI 1)), (2, .int (nI (bi (pP Q.1 Q.2 N).1)))], [.int (nI ((pP Q.1 Q.2 N).2.1)), .ref 23])) (h' := (Wd C e P (Q.1, 0) (pP Q.1 Q.2 N).2.1 (pP Q.1 Q.2 N).2.2 R t Z)) (fun _ _ => rfl) ?_
      refine eR.call (k' := 127) (as := [.ref 23, .int (nI ((pP Q.1 Q.2 N).2.1))]) (rest := []) (v := some (.int (nI (ld e (pP Q.1 Q.2 N).2.2 (pP Q.1 Q.2 N).2.1)))) (h1 := (Wd C e P (Q.1, 0) (pP Q.1 Q.2 N).2.1 (pP Q.1 Q.2 N).2.2 R t Z)) rfl rfl rfl rfl (eg (Nat.le_of_ble_eq_true rfl) (show 24 ≤ lo by omega) (Nat.le_of_ble_eq_true rfl)) (m_lead (show 112 ≤ lo - 24 by omega) V (pP_N hN) (pP_len hl h1)) ?_
      refine eR.step 4 (F' := (64, [(0, .ref 23), (1, .int (nI 1)), (2, .int (nI (bi (pP Q.1 Q.2 N).1))), (3, .int (nI (ld e (pP Q.1 Q.2 N).2.2 (pP Q.1 Q.2 N).2.1)))], [.ref 23, .ref 23])) (h' := (Wd C e P (Q.1, 0) (pP Q.1 Q.2 N).2.1 (pP Q.1 Q.2 N).2.2 R t Z)) (fun _ _ => rfl) ?_
      refine eR.call (k' := 126) (as := [.ref 23]) (rest := [.ref 23]) (v := some (.int (nI (bi (decide (e 11 = 1)))))) (h1 := (Wd C e P (Q.1, 0) (pP Q.1 Q.2 N).2.1 (pP Q.1 Q.2 N).2.2 R t Z)) rfl rfl rfl rfl (eg (Nat.le_of_ble_eq_true rfl) (show 20 ≤ lo by omega) (Nat.le_of_ble_eq_true rfl)) (m_clean V.B.dk) ?_
      refine eR.ifc rfl true (mb_nt (decide_eq_true h2)) ?_
      refine eR.step 1 (F' := (75, [(0, .ref 23), (1, .int (nI 1)), (2, .int (nI (bi (pP Q.1 Q.2 N).1))), (3, .int (nI (ld e (pP Q.1 Q.2 N).2.2 (pP Q.1 Q.2 N).2.1)))], [.int (nI (ld e (pP Q.1 Q.2 N).2.2 (pP Q.1 Q.2 N).2.1)), .ref 23])) (h' := (Wd C e P (Q.1, 0) (pP Q.1 Q.2 N).2.1 (pP Q.1 Q.2 N).2.2 R t Z)) (fun _ _ => rfl) ?_
      by_cases h3 : ld e (pP Q.1 Q.2 N).2.2 (pP Q.1 Q.2 N).2.1 = 0
      · rw [if_pos h3]
        refine eR.ifc rfl false ((nc_ne (b := 0) (by omega) (by decide)).trans (decide_eq_false (by omega))) ?_
        refine eR.step 2 (F' := (83, [(0, .ref 23), (1, .int (nI 1)), (2, .int (nI (bi (pP Q.1 Q.2 N).1))), (3, .int (nI (ld e (pP Q.1 Q.2 N).2.2 (pP Q.1 Q.2 N).2.1)))], [.int (nI 2), .ref 23])) (h' := (Wd C e P (Q.1, 0) (pP Q.1 Q.2 N).2.1 (pP Q.1 Q.2 N).2.2 R t Z)) (fun _ _ => rfl) ?_
        refine eR.sim rfl (F := (86, [(0, .ref 23), (1, .int (nI 1)), (2, .int (nI (bi (pP Q.1 Q.2 N).1))), (3, .int (nI (ld e (pP Q.1 Q.2 N).2.2 (pP Q.1 Q.2 N).2.1)))], [])) (h' := (Wd C e P (Q.1, 0) (pP Q.1 Q.2 N).2.1 (pP Q.1 Q.2 N).2.2 R 2 Z)) (by rfl) ?_
        refine eR.step 1 (F' := (87, [(0, .ref 23), (1, .int (nI 1)), (2, .int (nI (bi (pP Q.1 Q.2 N).1))), (3, .int (nI (ld e (pP Q.1 Q.2 N).2.2 (pP Q.1 Q.2 N).2.1)))], [.int (nI (ld e (pP Q.1 Q.2 N).2.2 (pP Q.1 Q.2 N).2.1))])) (h' := (Wd C e P (Q.1, 0) (pP Q.1 Q.2 N).2.1 (pP Q.1 Q.2 N).2.2 R 2 Z)) (fun _ _ => rfl) ?_
        exact eR.ret rfl rfl rfl
      · rw [if_neg h3]
        refine eR.ifc rfl true ((nc_ne (b := 0) (by omega) (by decide)).trans (decide_eq_true (by omega))) ?_
        refine eR.step 1 (F' := (83, [(0, .ref 23), (1, .int (nI 1)), (2, .int (nI (bi (pP Q.1 Q.2 N).1))), (3, .int (nI (ld e (pP Q.1 Q.2 N).2.2 (pP Q.1 Q.2 N).2.1)))], [.int (nI 0), .ref 23])) (h' := (Wd C e P (Q.1, 0) (pP Q.1 Q.2 N).2.1 (pP Q.1 Q.2 N).2.2 R t Z)) (fun _ _ => rfl) ?_
        refine eR.sim rfl (F := (86, [(0, .ref 23), (1, .int (nI 1)), (2, .int (nI (bi (pP Q.1 Q.2 N).1))), (3, .int (nI (ld e (pP Q.1 Q.2 N).2.2 (pP Q.1 Q.2 N).2.1)))], [])) (h' := (Wd C e P (Q.1, 0) (pP Q.1 Q.2 N).2.1 (pP Q.1 Q.2 N).2.2 R 0 Z)) (by rfl) ?_
        refine eR.step 1 (F' := (87, [(0, .ref 23), (1, .int (nI 1)), (2, .int (nI (bi (pP Q.1 Q.2 N).1))), (3, .int (nI (ld e (pP Q.1 Q.2 N).2.2 (pP Q.1 Q.2 N).2.1)))], [.int (nI (ld e (pP Q.1 Q.2 N).2.2 (pP Q.1 Q.2 N).2.1))])) (h' := (Wd C e P (Q.1, 0) (pP Q.1 Q.2 N).2.1 (pP Q.1 Q.2 N).2.2 R 0 Z)) (fun _ _ => rfl) ?_
        exact eR.ret rfl rfl rfl
    · rw [if_neg (fun z => h2 z.2), if_neg h2]
      refine eR.ifc rfl true (mb_ef (fun z => h2 (of_decide_eq_true z))) ?_
      refine eR.step 4 (F' := (64, [(0, .ref 23), (1, .int (nI 1)), (2, .int (nI (bi (pP Q.1 Q.2 N).1))), (3, .int (nI 0))], [.ref 23, .ref 23])) (h' := (Wd C e P (Q.1, 0) (pP Q.1 Q.2 N).2.1 (pP Q.1 Q.2 N).2.2 R t Z)) (fun _ _ => rfl) ?_
      refine eR.call (k' := 126) (as := [.ref 23]) (rest := [.ref 23]) (v := some (.int (nI (bi (decide (e 11 = 1)))))) (h1 := (Wd C e P (Q.1, 0) (pP Q.1 Q.2 N).2.1 (pP Q.1 Q.2 N).2.2 R t Z)) rfl rfl rfl rfl (eg (Nat.le_of_ble_eq_true rfl) (show 20 ≤ lo by omega) (Nat.le_of_ble_eq_true rfl)) (m_clean V.B.dk) ?_
      refine eR.ifc rfl false (mb_nf (fun z => h2 (of_decide_eq_true z))) ?_
      refine eR.step 2 (F' := (83, [(0, .ref 23), (1, .int (nI 1)), (2, .int (nI (bi (pP Q.1 Q.2 N).1))), (3, .int (nI 0))], [.int (nI 1), .ref 23])) (h' := (Wd C e P (Q.1, 0) (pP Q.1 Q.2 N).2.1 (pP Q.1 Q.2 N).2.2 R t Z)) (fun _ _ => rfl) ?_
      refine eR.sim rfl (F := (86, [(0, .ref 23), (1, .int (nI 1)), (2, .int (nI (bi (pP Q.1 Q.2 N).1))), (3, .int (nI 0))], [])) (h' := (Wd C e P (Q.1, 0) (pP Q.1 Q.2 N).2.1 (pP Q.1 Q.2 N).2.2 R 1 Z)) (by rfl) ?_
      refine eR.step 1 (F' := (87, [(0, .ref 23), (1, .int (nI 1)), (2, .int (nI (bi (pP Q.1 Q.2 N).1))), (3, .int (nI 0))], [.int (nI 0)])) (h' := (Wd C e P (Q.1, 0) (pP Q.1 Q.2 N).2.1 (pP Q.1 Q.2 N).2.2 R 1 Z)) (fun _ _ => rfl) ?_
      exact eR.ret rfl rfl rfl
  · rw [if_neg (fun z => h1 z.1), if_pos rfl]
    refine eR.ifc rfl true (mb_ef h1) ?_
    refine eR.step 4 (F' := (64, [(0, .ref 23), (1, .int (nI 1)), (2, .int (nI (bi (pP Q.1 Q.2 N).1))), (3, .int (nI 0))], [.ref 23, .ref 23])) (h' := (Wd C e P (Q.1, 0) (pP Q.1 Q.2 N).2.1 (pP Q.1 Q.2 N).2.2 R t Z)) (fun _ _ => rfl) ?_
    refine eR.call (k' := 126) (as := [.ref 23]) (rest := [.ref 23]) (v := some (.int (nI (bi (decide (e 11 = 1)))))) (h1 := (Wd C e P (Q.1, 0) (pP Q.1 Q.2 N).2.1 (pP Q.1 Q.2 N).2.2 R t Z)) rfl rfl rfl rfl (eg (Nat.le_of_ble_eq_true rfl) (show 20 ≤ lo by omega) (Nat.le_of_ble_eq_true rfl)) (m_clean V.B.dk) ?_
    by_cases h2 : e 11 = 1
    · rw [if_pos h2]
      refine eR.ifc rfl true (mb_nt (decide_eq_true h2)) ?_
      refine eR.step 1 (F' := (75, [(0, .ref 23), (1, .int (nI 1)), (2, .int (nI (bi (pP Q.1 Q.2 N).1))), (3, .int (nI 0))], [.int (nI 0), .ref 23])) (h' := (Wd C e P (Q.1, 0) (pP Q.1 Q.2 N).2.1 (pP Q.1 Q.2 N).2.2 R t Z)) (fun _ _ => rfl) ?_
      refine eR.ifc rfl false rfl ?_
      refine eR.step 2 (F' := (83, [(0, .ref 23), (1, .int (nI 1)), (2, .int (nI (bi (pP Q.1 Q.2 N).1))), (3, .int (nI 0))], [.int (nI 2), .ref 23])) (h' := (Wd C e P (Q.1, 0) (pP Q.1 Q.2 N).2.1 (pP Q.1 Q.2 N).2.2 R t Z)) (fun _ _ => rfl) ?_
      refine eR.sim rfl (F := (86, [(0, .ref 23), (1, .int (nI 1)), (2, .int (nI (bi (pP Q.1 Q.2 N).1))), (3, .int (nI 0))], [])) (h' := (Wd C e P (Q.1, 0) (pP Q.1 Q.2 N).2.1 (pP Q.1 Q.2 N).2.2 R 2 Z)) (by rfl) ?_
      refine eR.step 1 (F' := (87, [(0, .ref 23), (1, .int (nI 1)), (2, .int (nI (bi (pP Q.1 Q.2 N).1))), (3, .int (nI 0))], [.int (nI 0)])) (h' := (Wd C e P (Q.1, 0) (pP Q.1 Q.2 N).2.1 (pP Q.1 Q.2 N).2.2 R 2 Z)) (fun _ _ => rfl) ?_
      exact eR.ret rfl rfl rfl
    · rw [if_neg h2]
      refine eR.ifc rfl false (mb_nf (fun z => h2 (of_decide_eq_true z))) ?_
      refine eR.step 2 (F' := (83, [(0, .ref 23), (1, .int (nI 1)), (2, .int (nI (bi (pP Q.1 Q.2 N).1))), (3, .int (nI 0))], [.int (nI 1), .ref 23])) (h' := (Wd C e P (Q.1, 0) (pP Q.1 Q.2 N).2.1 (pP Q.1 Q.2 N).2.2 R t Z)) (fun _ _ => rfl) ?_
      refine eR.sim rfl (F := (86, [(0, .ref 23), (1, .int (nI 1)), (2, .int (nI (bi (pP Q.1 Q.2 N).1))), (3, .int (nI 0))], [])) (h' := (Wd C e P (Q.1, 0) (pP Q.1 Q.2 N).2.1 (pP Q.1 Q.2 N).2.2 R 1 Z)) (by rfl) ?_
      refine eR.step 1 (F' := (87, [(0, .ref 23), (1, .int (nI 1)), (2, .int (nI (bi (pP Q.1 Q.2 N).1))), (3, .int (nI 0))], [.int (nI 0)])) (h' := (Wd C e P (Q.1, 0) (pP Q.1 Q.2 N).2.1 (pP Q.1 Q.2 N).2.2 R 1 Z)) (fun _ _ => rfl) ?_
      exact eR.ret rfl rfl rfl
theorem m_above {cm sm fr lo : Nat} {C : gC} {e : Nat → Nat} {P Q : gT} {m : Nat} {N : Nat → Nat} {R : gS} {t : Nat} {Z : mj_H} (hlo : 136 ≤ lo) (V : qV e) (hN : ∀ k, N k < 256) (ht : ∀ k, P.1 k < 65536) (hl : P.2 ≤ 40) : eE mm_P cm sm (fr + 7) lo 123 [.ref 23] (Wd C e P Q m N R t Z) (.inl (some (.int (nI (ab e P N)))), (Wd C e (P.1, 0) Q (pP P.1 P.2 N).2.1 (pP P.1 P.2 N).2.2 R (tf e (ab e P N)) Z)) := by
  refine eE.of ?_
  have h11 := V.B.dk.1 11
  have k00 := V.k00
  refine eR.step 2 (F' := (2, [(0, .ref 23)], [.int (nI 0), .ref 23])) (h' := (Wd C e P Q m N R t Z)) (fun _ _ => rfl) ?_
  refine eR.call (k' := 124) (as := [.ref 23, .int (nI 0)]) (rest := []) (v := some (.int (nI (bi (pP P.1 P.2 N).1)))) (h1 := (Wd C e P Q (pP P.1 P.2 N).2.1 (pP P.1 P.2 N).2.2 R t Z)) rfl rfl rfl rfl (eg (Nat.le_of_ble_eq_true rfl) (show 25 ≤ lo by omega) (Nat.le_of_ble_eq_true rfl)) (m_parse0 (show 22 ≤ lo - 25 by omega) ht hl) ?_
  by_cases h1 : (pP P.1 P.2 N).1 = true
  · refine eR.ifc rfl false (mb_et h1) ?_
    refine eR.step 2 (F' := (12, [(0, .ref 23)], [.int (nI ((pP P.1 P.2 N).2.1))])) (h' := (Wd C e P Q (pP P.1 P.2 N).2.1 (pP P.1 P.2 N).2.2 R t Z)) (fun _ _ => rfl) ?_
    have hml := pP_len hl h1
    by_cases hm : 0 < (pP P.1 P.2 N).2.1
    · refine eR.ifc rfl false ((nc_le (b := 0) (by omega) (by decide)).trans (decide_eq_false (by omega))) ?_
      refine eR.step 5 (F' := (23, [(0, .ref 23), (1, .int (nI 1))], [.int (nI 0), .ref 23])) (h' := (Wd C e P Q (pP P.1 P.2 N).2.1 (pP P.1 P.2 N).2.2 R t Z)) (fun _ _ => rfl) ?_
      refine eR.sim rfl (F := (26, [(0, .ref 23), (1, .int (nI 1))], [])) (h' := (Wd C e (P.1, 0) Q (pP P.1 P.2 N).2.1 (pP P.1 P.2 N).2.2 R t Z)) (by rfl) ?_
      refine eR.step 1 (F' := (27, [(0, .ref 23), (1, .int (nI 1))], [.int (nI 1)])) (h' := (Wd C e (P.1, 0) Q (pP P.1 P.2 N).2.1 (pP P.1 P.2 N).2.2 R t Z)) (fun _ _ => rfl) ?_
      refine eR.ifc rfl false rfl ?_
      refine eR.step 1 (F' := (31, [(0, .ref 23), (1, .int (nI 1))], [.ref 23])) (h' := (Wd C e (P.1, 0) Q (pP P.1 P.2 N).2.1 (pP P.1 P.2 N).2.2 R t Z)) (fun _ _ => rfl) ?_
      refine eR.call (k' := 126) (as := [.ref 23]) (rest := []) (v := some (.int (nI (bi (decide (e 11 = 1)))))) (h1 := (Wd C e (P.1, 0) Q (pP P.1 P.2 N).2.1 (pP P.1 P.2 N).2.2 R t Z)) rfl rfl rfl rfl (eg (Nat.le_of_ble_eq_true rfl) (show 20 ≤ lo by omega) (Nat.le_of_ble_eq_true rfl)) (m_clean V.B.dk) ?_
      by_cases h2 : e 11 = 1
      · have h16 := ld_16 V (pP P.1 P.2 N).2.2 ((pP P.1 P.2 N).2.1 - 1)
        have h6 := V.B.dk.1 (32 + (16 * ld e (pP P.1 P.2 N).2.2 ((pP P.1 P.2 N).2.1 - 1)))
        have haj := aj_t (e := e) (T := P) (N := N) ⟨⟨h1, hm⟩, h2⟩
        refine eR.ifc rfl false (mb_et (decide_eq_true h2)) ?_
        refine eR.step 4 (F' := (43, [(0, .ref 23), (1, .int (nI 1))], [.int (nI 1), .int (nI ((pP P.1 P.2 N).2.1)), .ref 23])) (h' := (Wd C e (P.1, 0) Q (pP P.1 P.2 N).2.1 (pP P.1 P.2 N).2.2 R t Z)) (fun _ _ => rfl) ?_
        refine eR.nsub rfl (by omega) ?_
        refine eR.call (k' := 127) (as := [.ref 23, .int (nI (((pP P.1 P.2 N).2.1) - 1))]) (rest := []) (v := some (.int (nI (ld e (pP P.1 P.2 N).2.2 ((pP P.1 P.2 N).2.1 - 1))))) (h1 := (Wd C e (P.1, 0) Q (pP P.1 P.2 N).2.1 (pP P.1 P.2 N).2.2 R t Z)) rfl rfl rfl rfl (eg (Nat.le_of_ble_eq_true rfl) (show 24 ≤ lo by omega) (Nat.le_of_ble_eq_true rfl)) (m_lead (show 112 ≤ lo - 24 by omega) V (pP_N hN) (by omega)) ?_
        refine eR.step 3 (F' := (53, [(0, .ref 23), (1, .int (nI 1)), (2, .int (nI (ld e (pP P.1 P.2 N).2.2 ((pP P.1 P.2 N).2.1 - 1))))], [.int (nI (ld e (pP P.1 P.2 N).2.2 ((pP P.1 P.2 N).2.1 - 1)))])) (h' := (Wd C e (P.1, 0) Q (pP P.1 P.2 N).2.1 (pP P.1 P.2 N).2.2 R t Z)) (fun _ _ => rfl) ?_
        by_cases h3 : ld e (pP P.1 P.2 N).2.2 ((pP P.1 P.2 N).2.1 - 1) = 0
        · have hab : ab e P N = 0 := by unfold ab; rw [haj, h3, if_neg (by omega)]
          rw [hab, tf_2 h2 rfl]
          refine eR.ifc rfl true ((nc_eq (b := 0) (by omega) (by decide)).trans (decide_eq_true (by omega))) ?_
          refine eR.step 4 (F' := (73, [(0, .ref 23), (1, .int (nI 1)), (2, .int (nI (ld e (pP P.1 P.2 N).2.2 ((pP P.1 P.2 N).2.1 - 1)))), (3, .int (nI 0))], [.ref 23, .ref 23])) (h' := (Wd C e (P.1, 0) Q (pP P.1 P.2 N).2.1 (pP P.1 P.2 N).2.2 R t Z)) (fun _ _ => rfl) ?_
          refine eR.call (k' := 126) (as := [.ref 23]) (rest := [.ref 23]) (v := some (.int (nI (bi (decide (e 11 = 1)))))) (h1 := (Wd C e (P.1, 0) Q (pP P.1 P.2 N).2.1 (pP P.1 P.2 N).2.2 R t Z)) rfl rfl rfl rfl (eg (Nat.le_of_ble_eq_true rfl) (show 20 ≤ lo by omega) (Nat.le_of_ble_eq_true rfl)) (m_clean V.B.dk) ?_
          refine eR.ifc rfl true (mb_nt (decide_eq_true h2)) ?_
          refine eR.step 1 (F' := (84, [(0, .ref 23), (1, .int (nI 1)), (2, .int (nI (ld e (pP P.1 P.2 N).2.2 ((pP P.1 P.2 N).2.1 - 1)))), (3, .int (nI 0))], [.int (nI 0), .ref 23])) (h' := (Wd C e (P.1, 0) Q (pP P.1 P.2 N).2.1 (pP P.1 P.2 N).2.2 R t Z)) (fun _ _ => rfl) ?_
          refine eR.ifc rfl true rfl ?_
          refine eR.step 1 (F' := (92, [(0, .ref 23), (1, .int (nI 1)), (2, .int (nI (ld e (pP P.1 P.2 N).2.2 ((pP P.1 P.2 N).2.1 - 1)))), (3, .int (nI 0))], [.int (nI 2), .ref 23])) (h' := (Wd C e (P.1, 0) Q (pP P.1 P.2 N).2.1 (pP P.1 P.2 N).2.2 R t Z)) (fun _ _ => rfl) ?_
          refine eR.sim rfl (F := (95, [(0, .ref 23), (1, .int (nI 1)), (2, .int (nI (ld e (pP P.1 P.2 N).2.2 ((pP P.1 P.2 N).2.1 - 1)))), (3, .int (nI 0))], [])) (h' := (Wd C e (P.1, 0) Q (pP P.1 P.2 N).2.1 (pP P.1 P.2 N).2.2 R 2 Z)) (by rfl) ?_
          refine eR.step 1 (F' := (96, [(0, .ref 23), (1, .int (nI 1)), (2, .int (nI (ld e (pP P.1 P.2 N).2.2 ((pP P.1 P.2 N).2.1 - 1)))), (3, .int (nI 0))], [.int (nI 0)])) (h' := (Wd C e (P.1, 0) Q (pP P.1 P.2 N).2.1 (pP P.1 P.2 N).2.2 R 2 Z)) (fun _ _ => rfl) ?_
          refine eR.ifc rfl true rfl ?_
          refine eR.step 1 (F' := (104, [(0, .ref 23), (1, .int (nI 1)), (2, .int (nI (ld e (pP P.1 P.2 N).2.2 ((pP P.1 P.2 N).2.1 - 1)))), (3, .int (nI 0))], [.int (nI 0)])) (h' := (Wd C e (P.1, 0) Q (pP P.1 P.2 N).2.1 (pP P.1 P.2 N).2.2 R 2 Z)) (fun _ _ => rfl) ?_
          exact eR.ret rfl rfl rfl
        · refine eR.ifc rfl false ((nc_eq (b := 0) (by omega) (by decide)).trans (decide_eq_false (by omega))) ?_
          refine eR.step 2 (F' := (58, [(0, .ref 23), (1, .int (nI 1)), (2, .int (nI (ld e (pP P.1 P.2 N).2.2 ((pP P.1 P.2 N).2.1 - 1))))], [.int (nI (ld e (pP P.1 P.2 N).2.2 ((pP P.1 P.2 N).2.1 - 1))), .ref 23])) (h' := (Wd C e (P.1, 0) Q (pP P.1 P.2 N).2.1 (pP P.1 P.2 N).2.2 R t Z)) (fun _ _ => rfl) ?_
          refine eR.call (k' := 128) (as := [.ref 23, .int (nI (ld e (pP P.1 P.2 N).2.2 ((pP P.1 P.2 N).2.1 - 1)))]) (rest := []) (v := some (.int (nI (e (32 + (16 * ld e (pP P.1 P.2 N).2.2 ((pP P.1 P.2 N).2.1 - 1))))))) (h1 := (Wd C e (P.1, 0) Q (pP P.1 P.2 N).2.1 (pP P.1 P.2 N).2.2 R t Z)) rfl rfl rfl rfl (eg (Nat.le_of_ble_eq_true rfl) (show 21 ≤ lo by omega) (Nat.le_of_ble_eq_true rfl)) (m_kind (show 20 ≤ lo - 21 by omega) h16) ?_
          refine eR.step 1 (F' := (62, [(0, .ref 23), (1, .int (nI 1)), (2, .int (nI (ld e (pP P.1 P.2 N).2.2 ((pP P.1 P.2 N).2.1 - 1))))], [.int (nI 2), .int (nI (e (32 + (16 * ld e (pP P.1 P.2 N).2.2 ((pP P.1 P.2 N).2.1 - 1)))))])) (h' := (Wd C e (P.1, 0) Q (pP P.1 P.2 N).2.1 (pP P.1 P.2 N).2.2 R t Z)) (fun _ _ => rfl) ?_
          by_cases h4 : e (32 + (16 * ld e (pP P.1 P.2 N).2.2 ((pP P.1 P.2 N).2.1 - 1))) = 2
          · have hab : ab e P N = ld e (pP P.1 P.2 N).2.2 ((pP P.1 P.2 N).2.1 - 1) := by unfold ab; rw [haj, if_pos h4]
            rw [hab, tf_0 h2 h3]
            refine eR.icmp rfl false ((nc_ne (by omega) (by omega)).trans (decide_eq_false (by omega))) ?_
            refine eR.step 5 (F' := (73, [(0, .ref 23), (1, .int (nI 1)), (2, .int (nI (ld e (pP P.1 P.2 N).2.2 ((pP P.1 P.2 N).2.1 - 1)))), (3, .int (nI 1))], [.ref 23, .ref 23])) (h' := (Wd C e (P.1, 0) Q (pP P.1 P.2 N).2.1 (pP P.1 P.2 N).2.2 R t Z)) (fun _ _ => rfl) ?_
            refine eR.call (k' := 126) (as := [.ref 23]) (rest := [.ref 23]) (v := some (.int (nI (bi (decide (e 11 = 1)))))) (h1 := (Wd C e (P.1, 0) Q (pP P.1 P.2 N).2.1 (pP P.1 P.2 N).2.2 R t Z)) rfl rfl rfl rfl (eg (Nat.le_of_ble_eq_true rfl) (show 20 ≤ lo by omega) (Nat.le_of_ble_eq_true rfl)) (m_clean V.B.dk) ?_
            refine eR.ifc rfl true (mb_nt (decide_eq_true h2)) ?_
            refine eR.step 1 (F' := (84, [(0, .ref 23), (1, .int (nI 1)), (2, .int (nI (ld e (pP P.1 P.2 N).2.2 ((pP P.1 P.2 N).2.1 - 1)))), (3, .int (nI 1))], [.int (nI 1), .ref 23])) (h' := (Wd C e (P.1, 0) Q (pP P.1 P.2 N).2.1 (pP P.1 P.2 N).2.2 R t Z)) (fun _ _ => rfl) ?_
            refine eR.ifc rfl false rfl ?_
            refine eR.step 2 (F' := (92, [(0, .ref 23), (1, .int (nI 1)), (2, .int (nI (ld e (pP P.1 P.2 N).2.2 ((pP P.1 P.2 N).2.1 - 1)))), (3, .int (nI 1))], [.int (nI 0), .ref 23])) (h' := (Wd C e (P.1, 0) Q (pP P.1 P.2 N).2.1 (pP P.1 P.2 N).2.2 R t Z)) (fun _ _ => rfl) ?_
            refine eR.sim rfl (F := (95, [(0, .ref 23), (1, .int (nI 1)), (2, .int (nI (ld e (pP P.1 P.2 N).2.2 ((pP P.1 P.2 N).2.1 - 1)))), (3, .int (nI 1))], [])) (h' := (Wd C e (P.1, 0) Q (pP P.1 P.2 N).2.1 (pP P.1 P.2 N).2.2 R 0 Z)) (by rfl) ?_
            refine eR.step 1 (F' := (96, [(0, .ref 23), (1, .int (nI 1)), (2, .int (nI (ld e (pP P.1 P.2 N).2.2 ((pP P.1 P.2 N).2.1 - 1)))), (3, .int (nI 1))], [.int (nI 1)])) (h' := (Wd C e (P.1, 0) Q (pP P.1 P.2 N).2.1 (pP P.1 P.2 N).2.2 R 0 Z)) (fun _ _ => rfl) ?_
            refine eR.ifc rfl false rfl ?_
            refine eR.step 2 (F' := (104, [(0, .ref 23), (1, .int (nI 1)), (2, .int (nI (ld e (pP P.1 P.2 N).2.2 ((pP P.1 P.2 N).2.1 - 1)))), (3, .int (nI 1))], [.int (nI (ld e (pP P.1 P.2 N).2.2 ((pP P.1 P.2 N).2.1 - 1)))])) (h' := (Wd C e (P.1, 0) Q (pP P.1 P.2 N).2.1 (pP P.1 P.2 N).2.2 R 0 Z)) (fun _ _ => rfl) ?_
            exact eR.ret rfl rfl rfl
          · have hab : ab e P N = 0 := by unfold ab; rw [haj, if_neg h4]
            rw [hab, tf_2 h2 rfl]
            refine eR.icmp rfl true ((nc_ne (by omega) (by omega)).trans (decide_eq_true (by omega))) ?_
            refine eR.step 4 (F' := (73, [(0, .ref 23), (1, .int (nI 1)), (2, .int (nI (ld e (pP P.1 P.2 N).2.2 ((pP P.1 P.2 N).2.1 - 1)))), (3, .int (nI 0))], [.ref 23, .ref 23])) (h' := (Wd C e (P.1, 0) Q (pP P.1 P.2 N).2.1 (pP P.1 P.2 N).2.2 R t Z)) (fun _ _ => rfl) ?_
            refine eR.call (k' := 126) (as := [.ref 23]) (rest := [.ref 23]) (v := some (.int (nI (bi (decide (e 11 = 1)))))) (h1 := (Wd C e (P.1, 0) Q (pP P.1 P.2 N).2.1 (pP P.1 P.2 N).2.2 R t Z)) rfl rfl rfl rfl (eg (Nat.le_of_ble_eq_true rfl) (show 20 ≤ lo by omega) (Nat.le_of_ble_eq_true rfl)) (m_clean V.B.dk) ?_
            refine eR.ifc rfl true (mb_nt (decide_eq_true h2)) ?_
            refine eR.step 1 (F' := (84, [(0, .ref 23), (1, .int (nI 1)), (2, .int (nI (ld e (pP P.1 P.2 N).2.2 ((pP P.1 P.2 N).2.1 - 1)))), (3, .int (nI 0))], [.int (nI 0), .ref 23])) (h' := (Wd C e (P.1, 0) Q (pP P.1 P.2 N).2.1 (pP P.1 P.2 N).2.2 R t Z)) (fun _ _ => rfl) ?_
            refine eR.ifc rfl true rfl ?_
            refine eR.step 1 (F' := (92, [(0, .ref 23), (1, .int (nI 1)), (2, .int (nI (ld e (pP P.1 P.2 N).2.2 ((pP P.1 P.2 N).2.1 - 1)))), (3, .int (nI 0))], [.int (nI 2), .ref 23])) (h' := (Wd C e (P.1, 0) Q (pP P.1 P.2 N).2.1 (pP P.1 P.2 N).2.2 R t Z)) (fun _ _ => rfl) ?_
            refine eR.sim rfl (F := (95, [(0, .ref 23), (1, .int (nI 1)), (2, .int (nI (ld e (pP P.1 P.2 N).2.2 ((pP P.1 P.2 N).2.1 - 1)))), (3, .int (nI 0))], [])) (h' := (Wd C e (P.1, 0) Q (pP P.1 P.2 N).2.1 (pP P.1 P.2 N).2.2 R 2 Z)) (by rfl) ?_
            refine eR.step 1 (F' := (96, [(0, .ref 23), (1, .int (nI 1)), (2, .int (nI (ld e (pP P.1 P.2 N).2.2 ((pP P.1 P.2 N).2.1 - 1)))), (3, .int (nI 0))], [.int (nI 0)])) (h' := (Wd C e (P.1, 0) Q (pP P.1 P.2 N).2.1 (pP P.1 P.2 N).2.2 R 2 Z)) (fun _ _ => rfl) ?_
            refine eR.ifc rfl true rfl ?_
            refine eR.step 1 (F' := (104, [(0, .ref 23), (1, .int (nI 1)), (2, .int (nI (ld e (pP P.1 P.2 N).2.2 ((pP P.1 P.2 N).2.1 - 1)))), (3, .int (nI 0))], [.int (nI 0)])) (h' := (Wd C e (P.1, 0) Q (pP P.1 P.2 N).2.1 (pP P.1 P.2 N).2.2 R 2 Z)) (fun _ _ => rfl) ?_
            exact eR.ret rfl rfl rfl
      · rw [ab_f k00 (fun z => h2 z.2), tf_1 h2]
        refine eR.ifc rfl true (mb_ef (fun z => h2 (of_decide_eq_true z))) ?_
        refine eR.step 3 (F' := (53, [(0, .ref 23), (1, .int (nI 1)), (2, .int (nI 0))], [.int (nI 0)])) (h' := (Wd C e (P.1, 0) Q (pP P.1 P.2 N).2.1 (pP P.1 P.2 N).2.2 R t Z)) (fun _ _ => rfl) ?_
        refine eR.ifc rfl true rfl ?_
        refine eR.step 4 (F' := (73, [(0, .ref 23), (1, .int (nI 1)), (2, .int (nI 0)), (3, .int (nI 0))], [.ref 23, .ref 23])) (h' := (Wd C e (P.1, 0) Q (pP P.1 P.2 N).2.1 (pP P.1 P.2 N).2.2 R t Z)) (fun _ _ => rfl) ?_
        refine eR.call (k' := 126) (as := [.ref 23]) (rest := [.ref 23]) (v := some (.int (nI (bi (decide (e 11 = 1)))))) (h1 := (Wd C e (P.1, 0) Q (pP P.1 P.2 N).2.1 (pP P.1 P.2 N).2.2 R t Z)) rfl rfl rfl rfl (eg (Nat.le_of_ble_eq_true rfl) (show 20 ≤ lo by omega) (Nat.le_of_ble_eq_true rfl)) (m_clean V.B.dk) ?_
        refine eR.ifc rfl false (mb_nf (fun z => h2 (of_decide_eq_true z))) ?_
        refine eR.step 2 (F' := (92, [(0, .ref 23), (1, .int (nI 1)), (2, .int (nI 0)), (3, .int (nI 0))], [.int (nI 1), .ref 23])) (h' := (Wd C e (P.1, 0) Q (pP P.1 P.2 N).2.1 (pP P.1 P.2 N).2.2 R t Z)) (fun _ _ => rfl) ?_
        refine eR.sim rfl (F := (95, [(0, .ref 23), (1, .int (nI 1)), (2, .int (nI 0)), (3, .int (nI 0))], [])) (h' := (Wd C e (P.1, 0) Q (pP P.1 P.2 N).2.1 (pP P.1 P.2 N).2.2 R 1 Z)) (by rfl) ?_
        refine eR.step 1 (F' := (96, [(0, .ref 23), (1, .int (nI 1)), (2, .int (nI 0)), (3, .int (nI 0))], [.int (nI 0)])) (h' := (Wd C e (P.1, 0) Q (pP P.1 P.2 N).2.1 (pP P.1 P.2 N).2.2 R 1 Z)) (fun _ _ => rfl) ?_
        refine eR.ifc rfl true rfl ?_
        refine eR.step 1 (F' := (104, [(0, .ref 23), (1, .int (nI 1)), (2, .int (nI 0)), (3, .int (nI 0))], [.int (nI 0)])) (h' := (Wd C e (P.1, 0) Q (pP P.1 P.2 N).2.1 (pP P.1 P.2 N).2.2 R 1 Z)) (fun _ _ => rfl) ?_
        exact eR.ret rfl rfl rfl
    · rw [ab_f k00 (fun z => hm z.1.2)]
      refine eR.ifc rfl true ((nc_le (b := 0) (by omega) (by decide)).trans (decide_eq_true (by omega))) ?_
      refine eR.step 4 (F' := (23, [(0, .ref 23), (1, .int (nI 0))], [.int (nI 0), .ref 23])) (h' := (Wd C e P Q (pP P.1 P.2 N).2.1 (pP P.1 P.2 N).2.2 R t Z)) (fun _ _ => rfl) ?_
      refine eR.sim rfl (F := (26, [(0, .ref 23), (1, .int (nI 0))], [])) (h' := (Wd C e (P.1, 0) Q (pP P.1 P.2 N).2.1 (pP P.1 P.2 N).2.2 R t Z)) (by rfl) ?_
      refine eR.step 1 (F' := (27, [(0, .ref 23), (1, .int (nI 0))], [.int (nI 0)])) (h' := (Wd C e (P.1, 0) Q (pP P.1 P.2 N).2.1 (pP P.1 P.2 N).2.2 R t Z)) (fun _ _ => rfl) ?_
      refine eR.ifc rfl true rfl ?_
      refine eR.step 3 (F' := (53, [(0, .ref 23), (1, .int (nI 0)), (2, .int (nI 0))], [.int (nI 0)])) (h' := (Wd C e (P.1, 0) Q (pP P.1 P.2 N).2.1 (pP P.1 P.2 N).2.2 R t Z)) (fun _ _ => rfl) ?_
      refine eR.ifc rfl true rfl ?_
      refine eR.step 4 (F' := (73, [(0, .ref 23), (1, .int (nI 0)), (2, .int (nI 0)), (3, .int (nI 0))], [.ref 23, .ref 23])) (h' := (Wd C e (P.1, 0) Q (pP P.1 P.2 N).2.1 (pP P.1 P.2 N).2.2 R t Z)) (fun _ _ => rfl) ?_
      refine eR.call (k' := 126) (as := [.ref 23]) (rest := [.ref 23]) (v := some (.int (nI (bi (decide (e 11 = 1)))))) (h1 := (Wd C e (P.1, 0) Q (pP P.1 P.2 N).2.1 (pP P.1 P.2 N).2.2 R t Z)) rfl rfl rfl rfl (eg (Nat.le_of_ble_eq_true rfl) (show 20 ≤ lo by omega) (Nat.le_of_ble_eq_true rfl)) (m_clean V.B.dk) ?_
      by_cases h2 : e 11 = 1
      · rw [tf_2 h2 rfl]
        refine eR.ifc rfl true (mb_nt (decide_eq_true h2)) ?_
        refine eR.step 1 (F' := (84, [(0, .ref 23), (1, .int (nI 0)), (2, .int (nI 0)), (3, .int (nI 0))], [.int (nI 0), .ref 23])) (h' := (Wd C e (P.1, 0) Q (pP P.1 P.2 N).2.1 (pP P.1 P.2 N).2.2 R t Z)) (fun _ _ => rfl) ?_
        refine eR.ifc rfl true rfl ?_
        refine eR.step 1 (F' := (92, [(0, .ref 23), (1, .int (nI 0)), (2, .int (nI 0)), (3, .int (nI 0))], [.int (nI 2), .ref 23])) (h' := (Wd C e (P.1, 0) Q (pP P.1 P.2 N).2.1 (pP P.1 P.2 N).2.2 R t Z)) (fun _ _ => rfl) ?_
        refine eR.sim rfl (F := (95, [(0, .ref 23), (1, .int (nI 0)), (2, .int (nI 0)), (3, .int (nI 0))], [])) (h' := (Wd C e (P.1, 0) Q (pP P.1 P.2 N).2.1 (pP P.1 P.2 N).2.2 R 2 Z)) (by rfl) ?_
        refine eR.step 1 (F' := (96, [(0, .ref 23), (1, .int (nI 0)), (2, .int (nI 0)), (3, .int (nI 0))], [.int (nI 0)])) (h' := (Wd C e (P.1, 0) Q (pP P.1 P.2 N).2.1 (pP P.1 P.2 N).2.2 R 2 Z)) (fun _ _ => rfl) ?_
        refine eR.ifc rfl true rfl ?_
        refine eR.step 1 (F' := (104, [(0, .ref 23), (1, .int (nI 0)), (2, .int (nI 0)), (3, .int (nI 0))], [.int (nI 0)])) (h' := (Wd C e (P.1, 0) Q (pP P.1 P.2 N).2.1 (pP P.1 P.2 N).2.2 R 2 Z)) (fun _ _ => rfl) ?_
        exact eR.ret rfl rfl rfl
      · rw [tf_1 h2]
        refine eR.ifc rfl false (mb_nf (fun z => h2 (of_decide_eq_true z))) ?_
        refine eR.step 2 (F' := (92, [(0, .ref 23), (1, .int (nI 0)), (2, .int (nI 0)), (3, .int (nI 0))], [.int (nI 1), .ref 23])) (h' := (Wd C e (P.1, 0) Q (pP P.1 P.2 N).2.1 (pP P.1 P.2 N).2.2 R t Z)) (fun _ _ => rfl) ?_
        refine eR.sim rfl (F := (95, [(0, .ref 23), (1, .int (nI 0)), (2, .int (nI 0)), (3, .int (nI 0))], [])) (h' := (Wd C e (P.1, 0) Q (pP P.1 P.2 N).2.1 (pP P.1 P.2 N).2.2 R 1 Z)) (by rfl) ?_
        refine eR.step 1 (F' := (96, [(0, .ref 23), (1, .int (nI 0)), (2, .int (nI 0)), (3, .int (nI 0))], [.int (nI 0)])) (h' := (Wd C e (P.1, 0) Q (pP P.1 P.2 N).2.1 (pP P.1 P.2 N).2.2 R 1 Z)) (fun _ _ => rfl) ?_
        refine eR.ifc rfl true rfl ?_
        refine eR.step 1 (F' := (104, [(0, .ref 23), (1, .int (nI 0)), (2, .int (nI 0)), (3, .int (nI 0))], [.int (nI 0)])) (h' := (Wd C e (P.1, 0) Q (pP P.1 P.2 N).2.1 (pP P.1 P.2 N).2.2 R 1 Z)) (fun _ _ => rfl) ?_
        exact eR.ret rfl rfl rfl
  · rw [ab_f k00 (fun z => h1 z.1.1)]
    refine eR.ifc rfl true (mb_ef h1) ?_
    refine eR.step 4 (F' := (23, [(0, .ref 23), (1, .int (nI 0))], [.int (nI 0), .ref 23])) (h' := (Wd C e P Q (pP P.1 P.2 N).2.1 (pP P.1 P.2 N).2.2 R t Z)) (fun _ _ => rfl) ?_
    refine eR.sim rfl (F := (26, [(0, .ref 23), (1, .int (nI 0))], [])) (h' := (Wd C e (P.1, 0) Q (pP P.1 P.2 N).2.1 (pP P.1 P.2 N).2.2 R t Z)) (by rfl) ?_
    refine eR.step 1 (F' := (27, [(0, .ref 23), (1, .int (nI 0))], [.int (nI 0)])) (h' := (Wd C e (P.1, 0) Q (pP P.1 P.2 N).2.1 (pP P.1 P.2 N).2.2 R t Z)) (fun _ _ => rfl) ?_
    refine eR.ifc rfl true rfl ?_
    refine eR.step 3 (F' := (53, [(0, .ref 23), (1, .int (nI 0)), (2, .int (nI 0))], [.int (nI 0)])) (h' := (Wd C e (P.1, 0) Q (pP P.1 P.2 N).2.1 (pP P.1 P.2 N).2.2 R t Z)) (fun _ _ => rfl) ?_
    refine eR.ifc rfl true rfl ?_
    refine eR.step 4 (F' := (73, [(0, .ref 23), (1, .int (nI 0)), (2, .int (nI 0)), (3, .int (nI 0))], [.ref 23, .ref 23])) (h' := (Wd C e (P.1, 0) Q (pP P.1 P.2 N).2.1 (pP P.1 P.2 N).2.2 R t Z)) (fun _ _ => rfl) ?_
    refine eR.call (k' := 126) (as := [.ref 23]) (rest := [.ref 23]) (v := some (.int (nI (bi (decide (e 11 = 1)))))) (h1 := (Wd C e (P.1, 0) Q (pP P.1 P.2 N).2.1 (pP P.1 P.2 N).2.2 R t Z)) rfl rfl rfl rfl (eg (Nat.le_of_ble_eq_true rfl) (show 20 ≤ lo by omega) (Nat.le_of_ble_eq_true rfl)) (m_clean V.B.dk) ?_
    by_cases h2 : e 11 = 1
    · rw [tf_2 h2 rfl]
      refine eR.ifc rfl true (mb_nt (decide_eq_true h2)) ?_
      refine eR.step 1 (F' := (84, [(0, .ref 23), (1, .int (nI 0)), (2, .int (nI 0)), (3, .int (nI 0))], [.int (nI 0), .ref 23])) (h' := (Wd C e (P.1, 0) Q (pP P.1 P.2 N).2.1 (pP P.1 P.2 N).2.2 R t Z)) (fun _ _ => rfl) ?_
      refine eR.ifc rfl true rfl ?_
      refine eR.step 1 (F' := (92, [(0, .ref 23), (1, .int (nI 0)), (2, .int (nI 0)), (3, .int (nI 0))], [.int (nI 2), .ref 23])) (h' := (Wd C e (P.1, 0) Q (pP P.1 P.2 N).2.1 (pP P.1 P.2 N).2.2 R t Z)) (fun _ _ => rfl) ?_
      refine eR.sim rfl (F := (95, [(0, .ref 23), (1, .int (nI 0)), (2, .int (nI 0)), (3, .int (nI 0))], [])) (h' := (Wd C e (P.1, 0) Q (pP P.1 P.2 N).2.1 (pP P.1 P.2 N).2.2 R 2 Z)) (by rfl) ?_
      refine eR.step 1 (F' := (96, [(0, .ref 23), (1, .int (nI 0)), (2, .int (nI 0)), (3, .int (nI 0))], [.int (nI 0)])) (h' := (Wd C e (P.1, 0) Q (pP P.1 P.2 N).2.1 (pP P.1 P.2 N).2.2 R 2 Z)) (fun _ _ => rfl) ?_
      refine eR.ifc rfl true rfl ?_
      refine eR.step 1 (F' := (104, [(0, .ref 23), (1, .int (nI 0)), (2, .int (nI 0)), (3, .int (nI 0))], [.int (nI 0)])) (h' := (Wd C e (P.1, 0) Q (pP P.1 P.2 N).2.1 (pP P.1 P.2 N).2.2 R 2 Z)) (fun _ _ => rfl) ?_
      exact eR.ret rfl rfl rfl
    · rw [tf_1 h2]
      refine eR.ifc rfl false (mb_nf (fun z => h2 (of_decide_eq_true z))) ?_
      refine eR.step 2 (F' := (92, [(0, .ref 23), (1, .int (nI 0)), (2, .int (nI 0)), (3, .int (nI 0))], [.int (nI 1), .ref 23])) (h' := (Wd C e (P.1, 0) Q (pP P.1 P.2 N).2.1 (pP P.1 P.2 N).2.2 R t Z)) (fun _ _ => rfl) ?_
      refine eR.sim rfl (F := (95, [(0, .ref 23), (1, .int (nI 0)), (2, .int (nI 0)), (3, .int (nI 0))], [])) (h' := (Wd C e (P.1, 0) Q (pP P.1 P.2 N).2.1 (pP P.1 P.2 N).2.2 R 1 Z)) (by rfl) ?_
      refine eR.step 1 (F' := (96, [(0, .ref 23), (1, .int (nI 0)), (2, .int (nI 0)), (3, .int (nI 0))], [.int (nI 0)])) (h' := (Wd C e (P.1, 0) Q (pP P.1 P.2 N).2.1 (pP P.1 P.2 N).2.2 R 1 Z)) (fun _ _ => rfl) ?_
      refine eR.ifc rfl true rfl ?_
      refine eR.step 1 (F' := (104, [(0, .ref 23), (1, .int (nI 0)), (2, .int (nI 0)), (3, .int (nI 0))], [.int (nI 0)])) (h' := (Wd C e (P.1, 0) Q (pP P.1 P.2 N).2.1 (pP P.1 P.2 N).2.2 R 1 Z)) (fun _ _ => rfl) ?_
      exact eR.ret rfl rfl rfl
theorem l_full {cm sm fr lo : Nat} {C : gC} {e : Nat → Nat} {P Q : gT} {m : Nat} {N : Nat → Nat} {R : gS} {t : Nat} {Z : mj_H} (hlo : 88 ≤ lo) (he : dk e) {p : Nat} (hD : gD e p)  : ∀ (q k : Nat), 2 ≤ k → k + q = sn e p → eR mm_P cm sm (fr + 4) lo 149 (2, [(0, .ref 23), (1, .int (nI (p))), (2, .int (nI (k)))], []) (Wd C e P Q m N R t Z) (.inl (some (.int (nI (bi (!em e p k q))))), (Wd C e P Q m N R t Z))
  | 0, k, h0, h1 => by
    show eR _ _ _ _ _ _ _ _ (.inl (some (.int (nI 0))), _)
    have h24 := sn_le e p
    refine eR.step 3 (F' := (5, [(0, .ref 23), (1, .int (nI (p))), (2, .int (nI (k)))], [.int (nI (p)), .ref 23, .int (nI (k))])) (h' := (Wd C e P Q m N R t Z)) (fun _ _ => rfl) ?_
    refine eR.call (k' := 130) (as := [.ref 23, .int (nI (p))]) (rest := [.int (nI (k))]) (v := some (.int (nI (sn e p)))) (h1 := (Wd C e P Q m N R t Z)) rfl rfl rfl rfl (eg (Nat.le_of_ble_eq_true rfl) (show 21 ≤ lo by omega) (Nat.le_of_ble_eq_true rfl)) (m_slots (show 41 ≤ lo - 21 by omega) he hD) ?_
    refine eR.icmp rfl true ((nc_ge (by omega) (by omega)).trans (decide_eq_true (by omega))) ?_
    refine eR.step 1 (F' := (34, [(0, .ref 23), (1, .int (nI (p))), (2, .int (nI (k)))], [.int (nI 0)])) (h' := (Wd C e P Q m N R t Z)) (fun _ _ => rfl) ?_
    exact eR.ret rfl rfl rfl
  | q + 1, k, h0, h1 => by
    have h24 := sn_le e p
    refine eR.step 3 (F' := (5, [(0, .ref 23), (1, .int (nI (p))), (2, .int (nI (k)))], [.int (nI (p)), .ref 23, .int (nI (k))])) (h' := (Wd C e P Q m N R t Z)) (fun _ _ => rfl) ?_
    refine eR.call (k' := 130) (as := [.ref 23, .int (nI (p))]) (rest := [.int (nI (k))]) (v := some (.int (nI (sn e p)))) (h1 := (Wd C e P Q m N R t Z)) rfl rfl rfl rfl (eg (Nat.le_of_ble_eq_true rfl) (show 21 ≤ lo by omega) (Nat.le_of_ble_eq_true rfl)) (m_slots (show 41 ≤ lo - 21 by omega) he hD) ?_
    refine eR.icmp rfl false ((nc_ge (by omega) (by omega)).trans (decide_eq_false (by omega))) ?_
    refine eR.step 5 (F' := (18, [(0, .ref 23), (1, .int (nI (p))), (2, .int (nI (k)))], [.int (nI (k)), .int (nI (p)), .ref 23, .ref 24])) (h' := (Wd C e P Q m N R t Z)) (fun _ _ => rfl) ?_
    have hb := sa_2040 hD (show k < 24 by omega)
    refine eR.call (k' := 117) (as := [.ref 23, .int (nI (p)), .int (nI (k))]) (rest := [.ref 24]) (v := some (.int (nI (sa e p k)))) (h1 := (Wd C e P Q m N R t Z)) rfl rfl rfl rfl (eg (Nat.le_of_ble_eq_true rfl) (show 22 ≤ lo by omega) (Nat.le_of_ble_eq_true rfl)) (m_slotAt (show 66 ≤ lo - 22 by omega) hD (by omega)) ?_
    have h6 := he.1 (sa e p k)
    refine eR.ld24 rfl (by omega) ?_
    rw [em]
    by_cases h : si e p k = 0
    · rw [if_pos h]
      refine eR.ifc rfl true ((nc_eq (b := 0) (by omega) (by decide)).trans (decide_eq_true (h))) ?_
      refine eR.step 1 (F' := (30, [(0, .ref 23), (1, .int (nI (p))), (2, .int (nI (k) + 1))], [])) (h' := (Wd C e P Q m N R t Z)) (fun _ _ => rfl) ?_
      rw [show nI (k) + 1 = nI (k + 1) from nI_add (k) 1]
      refine eR.step 1 (F' := (2, [(0, .ref 23), (1, .int (nI (p))), (2, .int (nI (k + 1)))], [])) (h' := (Wd C e P Q m N R t Z)) (fun _ _ => rfl) ?_
      exact l_full hlo he hD q (k + 1) (by omega) (by omega)
    · rw [if_neg h]
      refine eR.ifc rfl false ((nc_eq (b := 0) (by omega) (by decide)).trans (decide_eq_false (h))) ?_
      refine eR.step 1 (F' := (26, [(0, .ref 23), (1, .int (nI (p))), (2, .int (nI (k)))], [.int (nI 1)])) (h' := (Wd C e P Q m N R t Z)) (fun _ _ => rfl) ?_
      exact eR.ret rfl rfl rfl
theorem m_full {cm sm fr lo : Nat} {C : gC} {e : Nat → Nat} {P Q : gT} {m : Nat} {N : Nat → Nat} {R : gS} {t : Nat} {Z : mj_H} (hlo : 88 ≤ lo) (he : dk e) {p : Nat} (hD : gD e p)  : eE mm_P cm sm (fr + 5) lo 149 [.ref 23, .int (nI (p))] (Wd C e P Q m N R t Z) (.inl (some (.int (nI (bi (!em e p 2 (sn e p - 2)))))), (Wd C e P Q m N R t Z)) := by
  refine eE.of ?_
  have h2 := hD.2.2.1
  refine eR.step 2 (F' := (2, [(0, .ref 23), (1, .int (nI (p))), (2, .int (nI 2))], [])) (h' := (Wd C e P Q m N R t Z)) (fun _ _ => rfl) ?_
  exact l_full hlo he hD (sn e p - 2) 2 (by omega) (by omega)
theorem l_liesM {cm sm fr lo : Nat} {C : gC} {e : Nat → Nat} {P Q : gT} {m : Nat} {N : Nat → Nat} {R : gS} {t : Nat} {Z : mj_H} (hlo : 88 ≤ lo) (V : qV e) {u v : Nat} (hv : v < 16) : ∀ (q p n : Nat), p < 16 → e (32 + (16 * p)) = 2 → n ≤ q → iu (qs e) p n = 1 → eR mm_P cm sm (fr + 4) lo 151 (2, [(0, .ref 23), (1, .int (nI (u))), (2, .int (nI (v))), (3, .int (nI (p)))], []) (Wd C e P Q m N R t Z) (.inl (some (.int (nI (bi (rl e v p (q + 1)))))), (Wd C e P Q m N R t Z))
  | 0, p, n, hp, hk, hnq, hn => by
    refine eR.step 2 (F' := (4, [(0, .ref 23), (1, .int (nI (u))), (2, .int (nI (v))), (3, .int (nI (p)))], [.int (nI (v)), .int (nI (p))])) (h' := (Wd C e P Q m N R t Z)) (fun _ _ => rfl) ?_
    rw [rl]
    by_cases h : p = v
    · rw [if_pos h]
      refine eR.icmp rfl true ((nc_eq (by omega) (by omega)).trans (decide_eq_true (by omega))) ?_
      refine eR.step 2 (F' := (29, [(0, .ref 23), (1, .int (nI (u))), (2, .int (nI (v))), (3, .int (nI (p)))], [.int (nI (v)), .int (nI (p))])) (h' := (Wd C e P Q m N R t Z)) (fun _ _ => rfl) ?_
      refine eR.icmp rfl false ((nc_ne (by omega) (by omega)).trans (decide_eq_false (by omega))) ?_
      refine eR.step 2 (F' := (37, [(0, .ref 23), (1, .int (nI (u))), (2, .int (nI (v))), (3, .int (nI (p)))], [.int (nI 1)])) (h' := (Wd C e P Q m N R t Z)) (fun _ _ => rfl) ?_
      exact eR.ret rfl rfl rfl
    · rw [if_neg h]
      refine eR.icmp rfl false ((nc_eq (by omega) (by omega)).trans (decide_eq_false (by omega))) ?_
      refine eR.step 2 (F' := (9, [(0, .ref 23), (1, .int (nI (u))), (2, .int (nI (v))), (3, .int (nI (p)))], [.int (nI 1), .int (nI (p))])) (h' := (Wd C e P Q m N R t Z)) (fun _ _ => rfl) ?_
      by_cases h2 : p = 1
      · rw [if_pos h2]
        refine eR.icmp rfl true ((nc_eq (by omega) (by omega)).trans (decide_eq_true (by omega))) ?_
        refine eR.step 2 (F' := (29, [(0, .ref 23), (1, .int (nI (u))), (2, .int (nI (v))), (3, .int (nI (p)))], [.int (nI (v)), .int (nI (p))])) (h' := (Wd C e P Q m N R t Z)) (fun _ _ => rfl) ?_
        refine eR.icmp rfl true ((nc_ne (by omega) (by omega)).trans (decide_eq_true (by omega))) ?_
        refine eR.step 1 (F' := (37, [(0, .ref 23), (1, .int (nI (u))), (2, .int (nI (v))), (3, .int (nI (p)))], [.int (nI 0)])) (h' := (Wd C e P Q m N R t Z)) (fun _ _ => rfl) ?_
        exact eR.ret rfl rfl rfl
      · exfalso
        have e0 : n = 0 := by omega
        subst e0
        exact h2 hn
  | q + 1, p, n, hp, hk, hnq, hn => by
    refine eR.step 2 (F' := (4, [(0, .ref 23), (1, .int (nI (u))), (2, .int (nI (v))), (3, .int (nI (p)))], [.int (nI (v)), .int (nI (p))])) (h' := (Wd C e P Q m N R t Z)) (fun _ _ => rfl) ?_
    rw [rl]
    by_cases h : p = v
    · rw [if_pos h]
      refine eR.icmp rfl true ((nc_eq (by omega) (by omega)).trans (decide_eq_true (by omega))) ?_
      refine eR.step 2 (F' := (29, [(0, .ref 23), (1, .int (nI (u))), (2, .int (nI (v))), (3, .int (nI (p)))], [.int (nI (v)), .int (nI (p))])) (h' := (Wd C e P Q m N R t Z)) (fun _ _ => rfl) ?_
      refine eR.icmp rfl false ((nc_ne (by omega) (by omega)).trans (decide_eq_false (by omega))) ?_
      refine eR.step 2 (F' := (37, [(0, .ref 23), (1, .int (nI (u))), (2, .int (nI (v))), (3, .int (nI (p)))], [.int (nI 1)])) (h' := (Wd C e P Q m N R t Z)) (fun _ _ => rfl) ?_
      exact eR.ret rfl rfl rfl
    · rw [if_neg h]
      refine eR.icmp rfl false ((nc_eq (by omega) (by omega)).trans (decide_eq_false (by omega))) ?_
      refine eR.step 2 (F' := (9, [(0, .ref 23), (1, .int (nI (u))), (2, .int (nI (v))), (3, .int (nI (p)))], [.int (nI 1), .int (nI (p))])) (h' := (Wd C e P Q m N R t Z)) (fun _ _ => rfl) ?_
      by_cases h2 : p = 1
      · rw [if_pos h2]
        refine eR.icmp rfl true ((nc_eq (by omega) (by omega)).trans (decide_eq_true (by omega))) ?_
        refine eR.step 2 (F' := (29, [(0, .ref 23), (1, .int (nI (u))), (2, .int (nI (v))), (3, .int (nI (p)))], [.int (nI (v)), .int (nI (p))])) (h' := (Wd C e P Q m N R t Z)) (fun _ _ => rfl) ?_
        refine eR.icmp rfl true ((nc_ne (by omega) (by omega)).trans (decide_eq_true (by omega))) ?_
        refine eR.step 1 (F' := (37, [(0, .ref 23), (1, .int (nI (u))), (2, .int (nI (v))), (3, .int (nI (p)))], [.int (nI 0)])) (h' := (Wd C e P Q m N R t Z)) (fun _ _ => rfl) ?_
        exact eR.ret rfl rfl rfl
      · rw [if_neg h2]
        have hD := V.gD hp hk
        have hs := sa_2040 hD (show 1 < 24 by omega)
        have hq : qk e p = 2 := by rw [qk_lt e p hp]; exact hk
        have t1 := V.T.t1 p hp hq
        have es := qs_si e p 1 hk (by have := hD.2.2.1; omega)
        rw [es] at t1
        have k2 := t1.2.2
        rw [qk_lt e _ t1.2.1] at k2
        cases n with
        | zero => exact absurd hn h2
        | succ n =>
          rw [iu, es] at hn
          refine eR.icmp rfl false ((nc_eq (by omega) (by omega)).trans (decide_eq_false (by omega))) ?_
          refine eR.step 5 (F' := (19, [(0, .ref 23), (1, .int (nI (u))), (2, .int (nI (v))), (3, .int (nI (p)))], [.int (nI 1), .int (nI (p)), .ref 23, .ref 24])) (h' := (Wd C e P Q m N R t Z)) (fun _ _ => rfl) ?_
          refine eR.call (k' := 117) (as := [.ref 23, .int (nI (p)), .int (nI 1)]) (rest := [.ref 24]) (v := some (.int (nI (sa e p 1)))) (h1 := (Wd C e P Q m N R t Z)) rfl rfl rfl rfl (eg (Nat.le_of_ble_eq_true rfl) (show 22 ≤ lo by omega) (Nat.le_of_ble_eq_true rfl)) (m_slotAt (show 66 ≤ lo - 22 by omega) hD (by omega)) ?_
          refine eR.ld24 rfl (by omega) ?_
          refine eR.step 2 (F' := (2, [(0, .ref 23), (1, .int (nI (u))), (2, .int (nI (v))), (3, .int (nI (e (sa e p 1))))], [])) (h' := (Wd C e P Q m N R t Z)) (fun _ _ => rfl) ?_
          exact l_liesM hlo V hv q (si e p 1) n t1.2.1 k2 (by omega) hn
theorem m_lies {cm sm fr lo : Nat} {C : gC} {e : Nat → Nat} {P Q : gT} {m : Nat} {N : Nat → Nat} {R : gS} {t : Nat} {Z : mj_H} (hlo : 88 ≤ lo) (V : qV e) {u v : Nat} (hu : u < 16) (hk : e (32 + (16 * u)) = 2) (hv : v < 16) : eE mm_P cm sm (fr + 5) lo 151 [.ref 23, .int (nI (u)), .int (nI (v))] (Wd C e P Q m N R t Z) (.inl (some (.int (nI (bi (up e v u 16))))), (Wd C e P Q m N R t Z)) := by
  refine eE.of ?_
  obtain ⟨n, n1, n2⟩ := V.T.root u hu (by rw [qk_lt e u hu]; exact hk)
  refine eR.step 2 (F' := (2, [(0, .ref 23), (1, .int (nI (u))), (2, .int (nI (v))), (3, .int (nI (u)))], [])) (h' := (Wd C e P Q m N R t Z)) (fun _ _ => rfl) ?_
  have h := l_liesM (C := C) (P := P) (Q := Q) (m := m) (N := N) (R := R) (t := t) (Z := Z) (cm := cm) (sm := sm) (fr := fr) (u := u) hlo V hv 15 u n hu hk (by omega) n2
  rw [rl_up e v 16 V.s11] at h
  exact h
theorem m_needs {cm sm fr lo : Nat} {C : gC} {e : Nat → Nat} {P Q : gT} {m : Nat} {N : Nat → Nat} {R : gS} {t : Nat} {Z : mj_H} (hlo : 66 ≤ lo) (he : dk e) {i : Nat} (hi : i < 16) {w : Nat} (hw : w < 38) (hx : e (32 + (16 * i) + 10) < 64)  : eE mm_P cm sm (fr + 4) lo 153 [.ref 23, .int (nI (i)), .int (nI (w))] (Wd C e P Q m N R t Z) (.inl (some (.int (nI (pN e i w)))), (Wd C e P Q m N R t Z)) := by
  refine eE.of ?_
  unfold pN
  have h9 : bo e i w < 2 ^ 20 := Nat.lt_trans (bo_lt he i w) (by decide)
  refine eR.step 3 (F' := (3, [(0, .ref 23), (1, .int (nI (i))), (2, .int (nI (w)))], [.int (nI (w)), .int (nI (i)), .ref 23])) (h' := (Wd C e P Q m N R t Z)) (fun _ _ => rfl) ?_
  refine eR.call (k' := 118) (as := [.ref 23, .int (nI (i)), .int (nI (w))]) (rest := []) (v := some (.int (nI (bo e i w)))) (h1 := (Wd C e P Q m N R t Z)) rfl rfl rfl rfl (eg (Nat.le_of_ble_eq_true rfl) (show 23 ≤ lo by omega) (Nat.le_of_ble_eq_true rfl)) (m_blk (show 43 ≤ lo - 23 by omega) hi hw hx) ?_
  by_cases h : bo e i w = 0
  · rw [if_neg (fun z => z h)]
    refine eR.ifc rfl true ((nc_eq (b := 0) (by omega) (by decide)).trans (decide_eq_true (by omega))) ?_
    refine eR.step 2 (F' := (16, [(0, .ref 23), (1, .int (nI (i))), (2, .int (nI (w)))], [.int (nI 6), .int (nI (w))])) (h' := (Wd C e P Q m N R t Z)) (fun _ _ => rfl) ?_
    by_cases h6 : 6 ≤ w
    · refine eR.icmp rfl false ((nc_lt (by omega) (by omega)).trans (decide_eq_false (by omega))) ?_
      refine eR.step 3 (F' := (24, [(0, .ref 23), (1, .int (nI (i))), (2, .int (nI (w)))], [.int (nI (i)), .ref 24])) (h' := (Wd C e P Q m N R t Z)) (fun _ _ => rfl) ?_
      refine eR.call (k' := 111) (as := [.int (nI (i))]) (rest := [.ref 24]) (v := some (.int (nI (32 + (16 * i))))) (h1 := (Wd C e P Q m N R t Z)) rfl rfl rfl rfl (eg (Nat.le_of_ble_eq_true rfl) (show 20 ≤ lo by omega) (Nat.le_of_ble_eq_true rfl)) (m_at (by omega)) ?_
      refine eR.step 1 (F' := (29, [(0, .ref 23), (1, .int (nI (i))), (2, .int (nI (w)))], [.int (nI 10), .int (nI (32 + (16 * i))), .ref 24])) (h' := (Wd C e P Q m N R t Z)) (fun _ _ => rfl) ?_
      refine eR.nadd rfl ?_
      refine eR.ld24 rfl (by omega) ?_
      by_cases h7 : e (32 + (16 * i) + 10) = 0
      · rw [if_pos ⟨h6, h7⟩]
        refine eR.ifc rfl false ((nc_ne (b := 0) (by omega) (by decide)).trans (decide_eq_false (by omega))) ?_
        refine eR.step 2 (F' := (39, [(0, .ref 23), (1, .int (nI (i))), (2, .int (nI (w)))], [.int (nI 2)])) (h' := (Wd C e P Q m N R t Z)) (fun _ _ => rfl) ?_
        exact eR.ret rfl rfl rfl
      · rw [if_neg (fun z => h7 z.2)]
        refine eR.ifc rfl true ((nc_ne (b := 0) (by omega) (by decide)).trans (decide_eq_true (by omega))) ?_
        refine eR.step 1 (F' := (39, [(0, .ref 23), (1, .int (nI (i))), (2, .int (nI (w)))], [.int (nI 1)])) (h' := (Wd C e P Q m N R t Z)) (fun _ _ => rfl) ?_
        exact eR.ret rfl rfl rfl
    · rw [if_neg (fun z => h6 z.1)]
      refine eR.icmp rfl true ((nc_lt (by omega) (by omega)).trans (decide_eq_true (by omega))) ?_
      refine eR.step 1 (F' := (39, [(0, .ref 23), (1, .int (nI (i))), (2, .int (nI (w)))], [.int (nI 1)])) (h' := (Wd C e P Q m N R t Z)) (fun _ _ => rfl) ?_
      exact eR.ret rfl rfl rfl
  · rw [if_pos h]
    refine eR.ifc rfl false ((nc_eq (b := 0) (by omega) (by decide)).trans (decide_eq_false (by omega))) ?_
    refine eR.step 2 (F' := (39, [(0, .ref 23), (1, .int (nI (i))), (2, .int (nI (w)))], [.int (nI 0)])) (h' := (Wd C e P Q m N R t Z)) (fun _ _ => rfl) ?_
    exact eR.ret rfl rfl rfl

