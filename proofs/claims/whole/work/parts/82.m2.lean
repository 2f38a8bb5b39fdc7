def gD (e : Nat → Nat) (p : Nat) : Prop := p < 16 ∧ e (32 + (16 * p) + 2) + (256 * e (32 + (16 * p) + 3)) = 8 * sn e p ∧ 2 ≤ sn e p ∧ e (32 + (16 * p) + 10) < 64 ∧ ∀ w, w < 6 → e (32 + (16 * p) + 4 + w) < 64
theorem gD_of {e : Nat → Nat} (E : qE e) {p : Nat} (hp : p < 16) (hk : e (32 + (16 * p)) = 2) : gD e p := by
  have r := E.R.dr p hp hk
  refine ⟨hp, r.2.1, r.2.2.1, by omega, fun w hw => ?_⟩
  have b := E.B.b1 p w hp (by omega)
  rw [qb_lo _ _ _ hw] at b
  omega
theorem sa_c (e : Nat → Nat) (p k : Nat) : (32 * (e (32 + (16 * p) + 4 + (k / 4)))) + ((k % 4) * 8) = sa e p k := by unfold sa; omega
theorem sa_2040 {e : Nat → Nat} {p : Nat} (h : gD e p) {k : Nat} (hk : k < 24) : sa e p k + 8 ≤ 2048 := by
  have := h.2.2.2.2 (k / 4) (by omega)
  unfold sa
  omega
def fi (n : Nat) : Int32 := if n = 0 then -1 else nI n
theorem fi_0 {n : Nat} (h : n = 0) : fi n = -1 := if_pos h
theorem fi_n {n : Nat} (h : ¬ n = 0) : fi n = nI n := if_neg h
theorem m_slots {cm sm fr lo : Nat} {C : gC} {e : Nat → Nat} {P Q : gT} {m : Nat} {N : Nat → Nat} {R : gS} {t : Nat} {Z : mj_H} (hlo : 41 ≤ lo) (he : dk e) {p : Nat} (hD : gD e p)  : eE mm_P cm sm (fr + 3) lo 130 [.ref 23, .int (nI (p))] (Wd C e P Q m N R t Z) (.inl (some (.int (nI (sn e p)))), (Wd C e P Q m N R t Z)) := by
  refine eE.of ?_
  have hz := hD.2.1
  have h6 := he.1 (32 + (16 * p) + 2)
  have h7 := he.1 (32 + (16 * p) + 3)
  refine eR.step 2 (F' := (2, [(0, .ref 23), (1, .int (nI (p)))], [.int (nI (p)), .ref 23])) (h' := (Wd C e P Q m N R t Z)) (fun _ _ => rfl) ?_
  refine eR.call (k' := 131) (as := [.ref 23, .int (nI (p))]) (rest := []) (v := some (.int (nI (e (32 + (16 * p) + 2) + (256 * e (32 + (16 * p) + 3)))))) (h1 := (Wd C e P Q m N R t Z)) rfl rfl rfl rfl (eg (Nat.le_of_ble_eq_true rfl) (show 21 ≤ lo by omega) (Nat.le_of_ble_eq_true rfl)) (m_size (show 20 ≤ lo - 21 by omega) he hD.1) ?_
  refine eR.step 1 (F' := (7, [(0, .ref 23), (1, .int (nI (p)))], [.int (nI 8), .int (nI (e (32 + (16 * p) + 2) + (256 * e (32 + (16 * p) + 3))))])) (h' := (Wd C e P Q m N R t Z)) (fun _ _ => rfl) ?_
  refine eR.ndiv rfl (by omega) (by decide) (by decide) ?_
  rw [show (e (32 + (16 * p) + 2) + (256 * e (32 + (16 * p) + 3))) / 8 = sn e p by omega]
  exact eR.ret rfl rfl rfl
theorem m_slotAt {cm sm fr lo : Nat} {C : gC} {e : Nat → Nat} {P Q : gT} {m : Nat} {N : Nat → Nat} {R : gS} {t : Nat} {Z : mj_H} (hlo : 66 ≤ lo) {p : Nat} (hD : gD e p) {k : Nat} (hk : k < 24) : eE mm_P cm sm (fr + 4) lo 117 [.ref 23, .int (nI (p)), .int (nI (k))] (Wd C e P Q m N R t Z) (.inl (some (.int (nI (sa e p k)))), (Wd C e P Q m N R t Z)) := by
  refine eE.of ?_
  have h6 := hD.2.2.2.2 (k / 4) (by omega)
  refine eR.step 5 (F' := (6, [(0, .ref 23), (1, .int (nI (p))), (2, .int (nI (k)))], [.int (nI 4), .int (nI (k)), .int (nI (p)), .ref 23, .int (nI 32)])) (h' := (Wd C e P Q m N R t Z)) (fun _ _ => rfl) ?_
  refine eR.ndiv rfl (by omega) (by decide) (by decide) ?_
  refine eR.call (k' := 118) (as := [.ref 23, .int (nI (p)), .int (nI (k / 4))]) (rest := [.int (nI 32)]) (v := some (.int (nI (bo e p (k / 4))))) (h1 := (Wd C e P Q m N R t Z)) rfl rfl rfl rfl (eg (Nat.le_of_ble_eq_true rfl) (show 23 ≤ lo by omega) (Nat.le_of_ble_eq_true rfl)) (m_blk (show 43 ≤ lo - 23 by omega) hD.1 (by omega) hD.2.2.2.1) ?_
  rw [bo_lo e p (k / 4) (by omega)]
  refine eR.nmul rfl ?_
  refine eR.step 2 (F' := (13, [(0, .ref 23), (1, .int (nI (p))), (2, .int (nI (k)))], [.int (nI 4), .int (nI (k)), .int (nI (32 * (e (32 + (16 * p) + 4 + (k / 4)))))])) (h' := (Wd C e P Q m N R t Z)) (fun _ _ => rfl) ?_
  refine eR.nrem rfl (by omega) (by decide) (by decide) ?_
  refine eR.step 1 (F' := (16, [(0, .ref 23), (1, .int (nI (p))), (2, .int (nI (k)))], [.int (nI 8), .int (nI (k % 4)), .int (nI (32 * (e (32 + (16 * p) + 4 + (k / 4)))))])) (h' := (Wd C e P Q m N R t Z)) (fun _ _ => rfl) ?_
  refine eR.nmul rfl ?_
  refine eR.nadd rfl ?_
  rw [sa_c]
  exact eR.ret rfl rfl rfl
theorem l_namedF {cm sm fr lo : Nat} {C : gC} {e : Nat → Nat} {P Q : gT} {m : Nat} {N : Nat → Nat} {R : gS} {t : Nat} {Z : mj_H} {a n : Nat} : ∀ (q k : Nat), k + q = 7 → eR mm_P cm sm fr lo 132 (5, [(0, .ref 23), (1, .int (nI (a))), (2, .int (nI (n))), (3, .int (nI 0)), (4, .int (nI (k)))], []) (Wd C e P Q m N R t Z) (.inl (some (.int (nI 0))), (Wd C e P Q m N R t Z))
  | 0, k, h1 => by
    refine eR.step 2 (F' := (9, [(0, .ref 23), (1, .int (nI (a))), (2, .int (nI (n))), (3, .int (nI 0)), (4, .int (nI (k)))], [.int (nI 7), .int (nI (k))])) (h' := (Wd C e P Q m N R t Z)) (fun _ _ => rfl) ?_
    refine eR.icmp rfl true ((nc_ge (by omega) (by omega)).trans (decide_eq_true (by omega))) ?_
    refine eR.step 1 (F' := (55, [(0, .ref 23), (1, .int (nI (a))), (2, .int (nI (n))), (3, .int (nI 0)), (4, .int (nI (k)))], [.int (nI 0)])) (h' := (Wd C e P Q m N R t Z)) (fun _ _ => rfl) ?_
    exact eR.ret rfl rfl rfl
  | q + 1, k, h1 => by
    refine eR.step 2 (F' := (9, [(0, .ref 23), (1, .int (nI (a))), (2, .int (nI (n))), (3, .int (nI 0)), (4, .int (nI (k)))], [.int (nI 7), .int (nI (k))])) (h' := (Wd C e P Q m N R t Z)) (fun _ _ => rfl) ?_
    refine eR.icmp rfl false ((nc_ge (by omega) (by omega)).trans (decide_eq_false (by omega))) ?_
    refine eR.step 1 (F' := (13, [(0, .ref 23), (1, .int (nI (a))), (2, .int (nI (n))), (3, .int (nI 0)), (4, .int (nI (k)))], [.int (nI 0)])) (h' := (Wd C e P Q m N R t Z)) (fun _ _ => rfl) ?_
    refine eR.ifc rfl true rfl ?_
    refine eR.step 3 (F' := (51, [(0, .ref 23), (1, .int (nI (a))), (2, .int (nI (n))), (3, .int (nI 0)), (4, .int (nI (k) + 1))], [])) (h' := (Wd C e P Q m N R t Z)) (fun _ _ => rfl) ?_
    rw [show nI (k) + 1 = nI (k + 1) from nI_add (k) 1]
    refine eR.step 1 (F' := (5, [(0, .ref 23), (1, .int (nI (a))), (2, .int (nI (n))), (3, .int (nI 0)), (4, .int (nI (k + 1)))], [])) (h' := (Wd C e P Q m N R t Z)) (fun _ _ => rfl) ?_
    exact l_namedF q (k + 1) (by omega)
theorem l_namedT {cm sm fr lo : Nat} {C : gC} {e : Nat → Nat} {P Q : gT} {m : Nat} {N : Nat → Nat} {R : gS} {t : Nat} {Z : mj_H} (he : dk e) (hN : ∀ k, N k < 65536) {a n : Nat} (ha : a + 8 ≤ 2048) (hn : n < 20) : ∀ (q k : Nat), k + q = 7 → eR mm_P cm sm fr lo 132 (5, [(0, .ref 23), (1, .int (nI (a))), (2, .int (nI (n))), (3, .int (nI 1)), (4, .int (nI (k)))], []) (Wd C e P Q m N R t Z) (.inl (some (.int (nI (bi (nq e a (fun q => N (7 * n + q)) k q))))), (Wd C e P Q m N R t Z))
  | 0, k, h1 => by
    show eR _ _ _ _ _ _ _ _ (.inl (some (.int (nI 1))), _)
    refine eR.step 2 (F' := (9, [(0, .ref 23), (1, .int (nI (a))), (2, .int (nI (n))), (3, .int (nI 1)), (4, .int (nI (k)))], [.int (nI 7), .int (nI (k))])) (h' := (Wd C e P Q m N R t Z)) (fun _ _ => rfl) ?_
    refine eR.icmp rfl true ((nc_ge (by omega) (by omega)).trans (decide_eq_true (by omega))) ?_
    refine eR.step 1 (F' := (55, [(0, .ref 23), (1, .int (nI (a))), (2, .int (nI (n))), (3, .int (nI 1)), (4, .int (nI (k)))], [.int (nI 1)])) (h' := (Wd C e P Q m N R t Z)) (fun _ _ => rfl) ?_
    exact eR.ret rfl rfl rfl
  | q + 1, k, h1 => by
    have h6 := he.1 (a + 1 + k)
    have h7 := hN (7 * n + k)
    refine eR.step 2 (F' := (9, [(0, .ref 23), (1, .int (nI (a))), (2, .int (nI (n))), (3, .int (nI 1)), (4, .int (nI (k)))], [.int (nI 7), .int (nI (k))])) (h' := (Wd C e P Q m N R t Z)) (fun _ _ => rfl) ?_
    refine eR.icmp rfl false ((nc_ge (by omega) (by omega)).trans (decide_eq_false (by omega))) ?_
    refine eR.step 1 (F' := (13, [(0, .ref 23), (1, .int (nI (a))), (2, .int (nI (n))), (3, .int (nI 1)), (4, .int (nI (k)))], [.int (nI 1)])) (h' := (Wd C e P Q m N R t Z)) (fun _ _ => rfl) ?_
    refine eR.ifc rfl false rfl ?_
    refine eR.step 4 (F' := (22, [(0, .ref 23), (1, .int (nI (a))), (2, .int (nI (n))), (3, .int (nI 1)), (4, .int (nI (k)))], [.int (nI 1), .int (nI (a)), .ref 24])) (h' := (Wd C e P Q m N R t Z)) (fun _ _ => rfl) ?_
    refine eR.nadd rfl ?_
    refine eR.step 1 (F' := (25, [(0, .ref 23), (1, .int (nI (a))), (2, .int (nI (n))), (3, .int (nI 1)), (4, .int (nI (k)))], [.int (nI (k)), .int (nI (a + 1)), .ref 24])) (h' := (Wd C e P Q m N R t Z)) (fun _ _ => rfl) ?_
    refine eR.nadd rfl ?_
    refine eR.ld24 rfl (by omega) ?_
    refine eR.step 4 (F' := (34, [(0, .ref 23), (1, .int (nI (a))), (2, .int (nI (n))), (3, .int (nI 1)), (4, .int (nI (k)))], [.int (nI (n)), .int (nI 7), .ref 27, .int (nI (e ((a + 1) + k)))])) (h' := (Wd C e P Q m N R t Z)) (fun _ _ => rfl) ?_
    refine eR.nmul rfl ?_
    refine eR.step 1 (F' := (37, [(0, .ref 23), (1, .int (nI (a))), (2, .int (nI (n))), (3, .int (nI 1)), (4, .int (nI (k)))], [.int (nI (k)), .int (nI (7 * n)), .ref 27, .int (nI (e ((a + 1) + k)))])) (h' := (Wd C e P Q m N R t Z)) (fun _ _ => rfl) ?_
    refine eR.nadd rfl ?_
    refine eR.ld27 rfl (by omega) ?_
    rw [nq]
    by_cases h : e (a + 1 + k) = N (7 * n + k)
    · rw [if_pos h]
      refine eR.icmp rfl false ((nc_ne (by omega) (by omega)).trans (decide_eq_false (by omega))) ?_
      refine eR.step 4 (F' := (51, [(0, .ref 23), (1, .int (nI (a))), (2, .int (nI (n))), (3, .int (nI 1)), (4, .int (nI (k) + 1))], [])) (h' := (Wd C e P Q m N R t Z)) (fun _ _ => rfl) ?_
      rw [show nI (k) + 1 = nI (k + 1) from nI_add (k) 1]
      refine eR.step 1 (F' := (5, [(0, .ref 23), (1, .int (nI (a))), (2, .int (nI (n))), (3, .int (nI 1)), (4, .int (nI (k + 1)))], [])) (h' := (Wd C e P Q m N R t Z)) (fun _ _ => rfl) ?_
      exact l_namedT he hN ha hn q (k + 1) (by omega)
    · rw [if_neg h]
      refine eR.icmp rfl true ((nc_ne (by omega) (by omega)).trans (decide_eq_true (by omega))) ?_
      refine eR.step 3 (F' := (51, [(0, .ref 23), (1, .int (nI (a))), (2, .int (nI (n))), (3, .int (nI 0)), (4, .int (nI (k) + 1))], [])) (h' := (Wd C e P Q m N R t Z)) (fun _ _ => rfl) ?_
      rw [show nI (k) + 1 = nI (k + 1) from nI_add (k) 1]
      refine eR.step 1 (F' := (5, [(0, .ref 23), (1, .int (nI (a))), (2, .int (nI (n))), (3, .int (nI 0)), (4, .int (nI (k + 1)))], [])) (h' := (Wd C e P Q m N R t Z)) (fun _ _ => rfl) ?_
      exact l_namedF q (k + 1) (by omega)
theorem m_named {cm sm fr lo : Nat} {C : gC} {e : Nat → Nat} {P Q : gT} {m : Nat} {N : Nat → Nat} {R : gS} {t : Nat} {Z : mj_H} (he : dk e) (hN : ∀ k, N k < 65536) {a n : Nat} (ha : a + 8 ≤ 2048) (hn : n < 20) : eE mm_P cm sm (fr + 1) lo 132 [.ref 23, .int (nI (a)), .int (nI (n))] (Wd C e P Q m N R t Z) (.inl (some (.int (nI (bi (nq e a (fun q => N (7 * n + q)) 0 7))))), (Wd C e P Q m N R t Z)) := by
  refine eE.of ?_
  refine eR.step 4 (F' := (5, [(0, .ref 23), (1, .int (nI (a))), (2, .int (nI (n))), (3, .int (nI 1)), (4, .int (nI 0))], [])) (h' := (Wd C e P Q m N R t Z)) (fun _ _ => rfl) ?_
  exact l_namedT he hN ha hn 7 0 (by omega)
theorem l_slotOf {cm sm fr lo : Nat} {C : gC} {e : Nat → Nat} {P Q : gT} {m : Nat} {N : Nat → Nat} {R : gS} {t : Nat} {Z : mj_H} (hlo : 88 ≤ lo) (he : dk e) {p : Nat} (hD : gD e p) (hN : ∀ k, N k < 65536) {n : Nat} (hn : n < 20)  : ∀ (q k z : Nat), 2 ≤ k → k + q = sn e p → eR mm_P cm sm (fr + 4) lo 129 (2, [(0, .ref 23), (1, .int (nI (p))), (2, .int (nI (n))), (3, .int (nI (k))), (4, .int (nI (z)))], []) (Wd C e P Q m N R t Z) (.inl (some (.int (fi (fd e p (fun q => N (7 * n + q)) k q)))), (Wd C e P Q m N R t Z))
  | 0, k, z, h0, h1 => by
    show eR _ _ _ _ _ _ _ _ (.inl (some (.int (-1))), _)
    have h24 := sn_le e p
    refine eR.step 3 (F' := (5, [(0, .ref 23), (1, .int (nI (p))), (2, .int (nI (n))), (3, .int (nI (k))), (4, .int (nI (z)))], [.int (nI (p)), .ref 23, .int (nI (k))])) (h' := (Wd C e P Q m N R t Z)) (fun _ _ => rfl) ?_
    refine eR.call (k' := 130) (as := [.ref 23, .int (nI (p))]) (rest := [.int (nI (k))]) (v := some (.int (nI (sn e p)))) (h1 := (Wd C e P Q m N R t Z)) rfl rfl rfl rfl (eg (Nat.le_of_ble_eq_true rfl) (show 21 ≤ lo by omega) (Nat.le_of_ble_eq_true rfl)) (m_slots (show 41 ≤ lo - 21 by omega) he hD) ?_
    refine eR.icmp rfl true ((nc_ge (by omega) (by omega)).trans (decide_eq_true (by omega))) ?_
    refine eR.step 1 (F' := (48, [(0, .ref 23), (1, .int (nI (p))), (2, .int (nI (n))), (3, .int (nI (k))), (4, .int (nI (z)))], [.int ((-1 : Int32))])) (h' := (Wd C e P Q m N R t Z)) (fun _ _ => rfl) ?_
    exact eR.ret rfl rfl rfl
  | q + 1, k, z, h0, h1 => by
    have h24 := sn_le e p
    have hb := sa_2040 hD (show k < 24 by omega)
    refine eR.step 3 (F' := (5, [(0, .ref 23), (1, .int (nI (p))), (2, .int (nI (n))), (3, .int (nI (k))), (4, .int (nI (z)))], [.int (nI (p)), .ref 23, .int (nI (k))])) (h' := (Wd C e P Q m N R t Z)) (fun _ _ => rfl) ?_
    refine eR.call (k' := 130) (as := [.ref 23, .int (nI (p))]) (rest := [.int (nI (k))]) (v := some (.int (nI (sn e p)))) (h1 := (Wd C e P Q m N R t Z)) rfl rfl rfl rfl (eg (Nat.le_of_ble_eq_true rfl) (show 21 ≤ lo by omega) (Nat.le_of_ble_eq_true rfl)) (m_slots (show 41 ≤ lo - 21 by omega) he hD) ?_
    refine eR.icmp rfl false ((nc_ge (by omega) (by omega)).trans (decide_eq_false (by omega))) ?_
    refine eR.step 3 (F' := (14, [(0, .ref 23), (1, .int (nI (p))), (2, .int (nI (n))), (3, .int (nI (k))), (4, .int (nI (z)))], [.int (nI (k)), .int (nI (p)), .ref 23])) (h' := (Wd C e P Q m N R t Z)) (fun _ _ => rfl) ?_
    refine eR.call (k' := 117) (as := [.ref 23, .int (nI (p)), .int (nI (k))]) (rest := []) (v := some (.int (nI (sa e p k)))) (h1 := (Wd C e P Q m N R t Z)) rfl rfl rfl rfl (eg (Nat.le_of_ble_eq_true rfl) (show 22 ≤ lo by omega) (Nat.le_of_ble_eq_true rfl)) (m_slotAt (show 66 ≤ lo - 22 by omega) hD (by omega)) ?_
    refine eR.step 4 (F' := (25, [(0, .ref 23), (1, .int (nI (p))), (2, .int (nI (n))), (3, .int (nI (k))), (4, .int (nI (sa e p k)))], [.int (nI (sa e p k)), .ref 24])) (h' := (Wd C e P Q m N R t Z)) (fun _ _ => rfl) ?_
    have h6 := he.1 (sa e p k)
    refine eR.ld24 rfl (by omega) ?_
    rw [fd]
    by_cases h : si e p k = 0
    · rw [if_neg (fun z => z.1 h)]
      refine eR.ifc rfl true ((nc_eq (b := 0) (by omega) (by decide)).trans (decide_eq_true (h))) ?_
      refine eR.step 1 (F' := (44, [(0, .ref 23), (1, .int (nI (p))), (2, .int (nI (n))), (3, .int (nI (k) + 1)), (4, .int (nI (sa e p k)))], [])) (h' := (Wd C e P Q m N R t Z)) (fun _ _ => rfl) ?_
      rw [show nI (k) + 1 = nI (k + 1) from nI_add (k) 1]
      refine eR.step 1 (F' := (2, [(0, .ref 23), (1, .int (nI (p))), (2, .int (nI (n))), (3, .int (nI (k + 1))), (4, .int (nI (sa e p k)))], [])) (h' := (Wd C e P Q m N R t Z)) (fun _ _ => rfl) ?_
      exact l_slotOf hlo he hD hN hn q (k + 1) _ (by omega) (by omega)
    · refine eR.ifc rfl false ((nc_eq (b := 0) (by omega) (by decide)).trans (decide_eq_false (h))) ?_
      refine eR.step 3 (F' := (33, [(0, .ref 23), (1, .int (nI (p))), (2, .int (nI (n))), (3, .int (nI (k))), (4, .int (nI (sa e p k)))], [.int (nI (n)), .int (nI (sa e p k)), .ref 23])) (h' := (Wd C e P Q m N R t Z)) (fun _ _ => rfl) ?_
      refine eR.call (k' := 132) (as := [.ref 23, .int (nI (sa e p k)), .int (nI (n))]) (rest := []) (v := some (.int (nI (bi (nq e (sa e p k) (fun q => N (7 * n + q)) 0 7))))) (h1 := (Wd C e P Q m N R t Z)) rfl rfl rfl rfl (eg (Nat.le_of_ble_eq_true rfl) (show 24 ≤ lo by omega) (Nat.le_of_ble_eq_true rfl)) (m_named he hN (by omega) hn) ?_
      by_cases h2 : nq e (sa e p k) (fun q => N (7 * n + q)) 0 7 = true
      · rw [if_pos ⟨h, h2⟩, fi_n (by omega)]
        refine eR.ifc rfl false (mb_et h2) ?_
        refine eR.step 1 (F' := (40, [(0, .ref 23), (1, .int (nI (p))), (2, .int (nI (n))), (3, .int (nI (k))), (4, .int (nI (sa e p k)))], [.int (nI (k))])) (h' := (Wd C e P Q m N R t Z)) (fun _ _ => rfl) ?_
        exact eR.ret rfl rfl rfl
      · rw [if_neg (fun z => h2 z.2)]
        refine eR.ifc rfl true (mb_ef h2) ?_
        refine eR.step 1 (F' := (44, [(0, .ref 23), (1, .int (nI (p))), (2, .int (nI (n))), (3, .int (nI (k) + 1)), (4, .int (nI (sa e p k)))], [])) (h' := (Wd C e P Q m N R t Z)) (fun _ _ => rfl) ?_
        rw [show nI (k) + 1 = nI (k + 1) from nI_add (k) 1]
        refine eR.step 1 (F' := (2, [(0, .ref 23), (1, .int (nI (p))), (2, .int (nI (n))), (3, .int (nI (k + 1))), (4, .int (nI (sa e p k)))], [])) (h' := (Wd C e P Q m N R t Z)) (fun _ _ => rfl) ?_
        exact l_slotOf hlo he hD hN hn q (k + 1) _ (by omega) (by omega)
theorem l_slotOf1 {cm sm fr lo : Nat} {C : gC} {e : Nat → Nat} {P Q : gT} {m : Nat} {N : Nat → Nat} {R : gS} {t : Nat} {Z : mj_H} (hlo : 88 ≤ lo) (he : dk e) {p : Nat} (hD : gD e p) (hN : ∀ k, N k < 65536) {n : Nat} (hn : n < 20)  : ∀ (q k : Nat), 2 ≤ k → k + q = sn e p → eR mm_P cm sm (fr + 4) lo 129 (2, [(0, .ref 23), (1, .int (nI (p))), (2, .int (nI (n))), (3, .int (nI (k)))], []) (Wd C e P Q m N R t Z) (.inl (some (.int (fi (fd e p (fun q => N (7 * n + q)) k q)))), (Wd C e P Q m N R t Z))
  | 0, k, h0, h1 => by
    show eR _ _ _ _ _ _ _ _ (.inl (some (.int (-1))), _)
    have h24 := sn_le e p
    refine eR.step 3 (F' := (5, [(0, .ref 23), (1, .int (nI (p))), (2, .int (nI (n))), (3, .int (nI (k)))], [.int (nI (p)), .ref 23, .int (nI (k))])) (h' := (Wd C e P Q m N R t Z)) (fun _ _ => rfl) ?_
    refine eR.call (k' := 130) (as := [.ref 23, .int (nI (p))]) (rest := [.int (nI (k))]) (v := some (.int (nI (sn e p)))) (h1 := (Wd C e P Q m N R t Z)) rfl rfl rfl rfl (eg (Nat.le_of_ble_eq_true rfl) (show 21 ≤ lo by omega) (Nat.le_of_ble_eq_true rfl)) (m_slots (show 41 ≤ lo - 21 by omega) he hD) ?_
    refine eR.icmp rfl true ((nc_ge (by omega) (by omega)).trans (decide_eq_true (by omega))) ?_
    refine eR.step 1 (F' := (48, [(0, .ref 23), (1, .int (nI (p))), (2, .int (nI (n))), (3, .int (nI (k)))], [.int ((-1 : Int32))])) (h' := (Wd C e P Q m N R t Z)) (fun _ _ => rfl) ?_
    exact eR.ret rfl rfl rfl
  | q + 1, k, h0, h1 => by
    have h24 := sn_le e p
    have hb := sa_2040 hD (show k < 24 by omega)
    refine eR.step 3 (F' := (5, [(0, .ref 23), (1, .int (nI (p))), (2, .int (nI (n))), (3, .int (nI (k)))], [.int (nI (p)), .ref 23, .int (nI (k))])) (h' := (Wd C e P Q m N R t Z)) (fun _ _ => rfl) ?_
    refine eR.call (k' := 130) (as := [.ref 23, .int (nI (p))]) (rest := [.int (nI (k))]) (v := some (.int (nI (sn e p)))) (h1 := (Wd C e P Q m N R t Z)) rfl rfl rfl rfl (eg (Nat.le_of_ble_eq_true rfl) (show 21 ≤ lo by omega) (Nat.le_of_ble_eq_true rfl)) (m_slots (show 41 ≤ lo - 21 by omega) he hD) ?_
    refine eR.icmp rfl false ((nc_ge (by omega) (by omega)).trans (decide_eq_false (by omega))) ?_
    refine eR.step 3 (F' := (14, [(0, .ref 23), (1, .int (nI (p))), (2, .int (nI (n))), (3, .int (nI (k)))], [.int (nI (k)), .int (nI (p)), .ref 23])) (h' := (Wd C e P Q m N R t Z)) (fun _ _ => rfl) ?_
    refine eR.call (k' := 117) (as := [.ref 23, .int (nI (p)), .int (nI (k))]) (rest := []) (v := some (.int (nI (sa e p k)))) (h1 := (Wd C e P Q m N R t Z)) rfl rfl rfl rfl (eg (Nat.le_of_ble_eq_true rfl) (show 22 ≤ lo by omega) (Nat.le_of_ble_eq_true rfl)) (m_slotAt (show 66 ≤ lo - 22 by omega) hD (by omega)) ?_
    refine eR.step 4 (F' := (25, [(0, .ref 23), (1, .int (nI (p))), (2, .int (nI (n))), (3, .int (nI (k))), (4, .int (nI (sa e p k)))], [.int (nI (sa e p k)), .ref 24])) (h' := (Wd C e P Q m N R t Z)) (fun _ _ => rfl) ?_
    have h6 := he.1 (sa e p k)
    refine eR.ld24 rfl (by omega) ?_
    rw [fd]
    by_cases h : si e p k = 0
    · rw [if_neg (fun z => z.1 h)]
      refine eR.ifc rfl true ((nc_eq (b := 0) (by omega) (by decide)).trans (decide_eq_true (h))) ?_
      refine eR.step 1 (F' := (44, [(0, .ref 23), (1, .int (nI (p))), (2, .int (nI (n))), (3, .int (nI (k) + 1)), (4, .int (nI (sa e p k)))], [])) (h' := (Wd C e P Q m N R t Z)) (fun _ _ => rfl) ?_
      rw [show nI (k) + 1 = nI (k + 1) from nI_add (k) 1]
      refine eR.step 1 (F' := (2, [(0, .ref 23), (1, .int (nI (p))), (2, .int (nI (n))), (3, .int (nI (k + 1))), (4, .int (nI (sa e p k)))], [])) (h' := (Wd C e P Q m N R t Z)) (fun _ _ => rfl) ?_
      exact l_slotOf hlo he hD hN hn q (k + 1) _ (by omega) (by omega)
    · refine eR.ifc rfl false ((nc_eq (b := 0) (by omega) (by decide)).trans (decide_eq_false (h))) ?_
      refine eR.step 3 (F' := (33, [(0, .ref 23), (1, .int (nI (p))), (2, .int (nI (n))), (3, .int (nI (k))), (4, .int (nI (sa e p k)))], [.int (nI (n)), .int (nI (sa e p k)), .ref 23])) (h' := (Wd C e P Q m N R t Z)) (fun _ _ => rfl) ?_
      refine eR.call (k' := 132) (as := [.ref 23, .int (nI (sa e p k)), .int (nI (n))]) (rest := []) (v := some (.int (nI (bi (nq e (sa e p k) (fun q => N (7 * n + q)) 0 7))))) (h1 := (Wd C e P Q m N R t Z)) rfl rfl rfl rfl (eg (Nat.le_of_ble_eq_true rfl) (show 24 ≤ lo by omega) (Nat.le_of_ble_eq_true rfl)) (m_named he hN (by omega) hn) ?_
      by_cases h2 : nq e (sa e p k) (fun q => N (7 * n + q)) 0 7 = true
      · rw [if_pos ⟨h, h2⟩, fi_n (by omega)]
        refine eR.ifc rfl false (mb_et h2) ?_
        refine eR.step 1 (F' := (40, [(0, .ref 23), (1, .int (nI (p))), (2, .int (nI (n))), (3, .int (nI (k))), (4, .int (nI (sa e p k)))], [.int (nI (k))])) (h' := (Wd C e P Q m N R t Z)) (fun _ _ => rfl) ?_
        exact eR.ret rfl rfl rfl
      · rw [if_neg (fun z => h2 z.2)]
        refine eR.ifc rfl true (mb_ef h2) ?_
        refine eR.step 1 (F' := (44, [(0, .ref 23), (1, .int (nI (p))), (2, .int (nI (n))), (3, .int (nI (k) + 1)), (4, .int (nI (sa e p k)))], [])) (h' := (Wd C e P Q m N R t Z)) (fun _ _ => rfl) ?_
        rw [show nI (k) + 1 = nI (k + 1) from nI_add (k) 1]
        refine eR.step 1 (F' := (2, [(0, .ref 23), (1, .int (nI (p))), (2, .int (nI (n))), (3, .int (nI (k + 1))), (4, .int (nI (sa e p k)))], [])) (h' := (Wd C e P Q m N R t Z)) (fun _ _ => rfl) ?_
        exact l_slotOf hlo he hD hN hn q (k + 1) _ (by omega) (by omega)
theorem m_slotOf {cm sm fr lo : Nat} {C : gC} {e : Nat → Nat} {P Q : gT} {m : Nat} {N : Nat → Nat} {R : gS} {t : Nat} {Z : mj_H} (hlo : 88 ≤ lo) (he : dk e) {p : Nat} (hD : gD e p) (hN : ∀ k, N k < 65536) {n : Nat} (hn : n < 20)  : eE mm_P cm sm (fr + 5) lo 129 [.ref 23, .int (nI (p)), .int (nI (n))] (Wd C e P Q m N R t Z) (.inl (some (.int (fi (fd e p (fun q => N (7 * n + q)) 2 (sn e p - 2))))), (Wd C e P Q m N R t Z)) := by
  refine eE.of ?_
  have h2 := hD.2.2.1
  refine eR.step 2 (F' := (2, [(0, .ref 23), (1, .int (nI (p))), (2, .int (nI (n))), (3, .int (nI 2))], [])) (h' := (Wd C e P Q m N R t Z)) (fun _ _ => rfl) ?_
  exact l_slotOf1 hlo he hD hN hn (sn e p - 2) 2 (by omega) (by omega)
theorem l_freeS {cm sm fr lo : Nat} {C : gC} {e : Nat → Nat} {P Q : gT} {m : Nat} {N : Nat → Nat} {R : gS} {t : Nat} {Z : mj_H} (hlo : 88 ≤ lo) (he : dk e) {p : Nat} (hD : gD e p)  : ∀ (q k : Nat), 2 ≤ k → k + q = sn e p → eR mm_P cm sm (fr + 4) lo 135 (2, [(0, .ref 23), (1, .int (nI (p))), (2, .int (nI (k)))], []) (Wd C e P Q m N R t Z) (.inl (some (.int (fi (fs e p 0 k q)))), (Wd C e P Q m N R t Z))
  | 0, k, h0, h1 => by
    show eR _ _ _ _ _ _ _ _ (.inl (some (.int (-1))), _)
    have h24 := sn_le e p
    refine eR.step 3 (F' := (5, [(0, .ref 23), (1, .int (nI (p))), (2, .int (nI (k)))], [.int (nI (p)), .ref 23, .int (nI (k))])) (h' := (Wd C e P Q m N R t Z)) (fun _ _ => rfl) ?_
    refine eR.call (k' := 130) (as := [.ref 23, .int (nI (p))]) (rest := [.int (nI (k))]) (v := some (.int (nI (sn e p)))) (h1 := (Wd C e P Q m N R t Z)) rfl rfl rfl rfl (eg (Nat.le_of_ble_eq_true rfl) (show 21 ≤ lo by omega) (Nat.le_of_ble_eq_true rfl)) (m_slots (show 41 ≤ lo - 21 by omega) he hD) ?_
    refine eR.icmp rfl true ((nc_ge (by omega) (by omega)).trans (decide_eq_true (by omega))) ?_
    refine eR.step 1 (F' := (34, [(0, .ref 23), (1, .int (nI (p))), (2, .int (nI (k)))], [.int ((-1 : Int32))])) (h' := (Wd C e P Q m N R t Z)) (fun _ _ => rfl) ?_
    exact eR.ret rfl rfl rfl
  | q + 1, k, h0, h1 => by
    have h24 := sn_le e p
    have hb := sa_2040 hD (show k < 24 by omega)
    refine eR.step 3 (F' := (5, [(0, .ref 23), (1, .int (nI (p))), (2, .int (nI (k)))], [.int (nI (p)), .ref 23, .int (nI (k))])) (h' := (Wd C e P Q m N R t Z)) (fun _ _ => rfl) ?_
    refine eR.call (k' := 130) (as := [.ref 23, .int (nI (p))]) (rest := [.int (nI (k))]) (v := some (.int (nI (sn e p)))) (h1 := (Wd C e P Q m N R t Z)) rfl rfl rfl rfl (eg (Nat.le_of_ble_eq_true rfl) (show 21 ≤ lo by omega) (Nat.le_of_ble_eq_true rfl)) (m_slots (show 41 ≤ lo - 21 by omega) he hD) ?_
    refine eR.icmp rfl false ((nc_ge (by omega) (by omega)).trans (decide_eq_false (by omega))) ?_
    refine eR.step 5 (F' := (18, [(0, .ref 23), (1, .int (nI (p))), (2, .int (nI (k)))], [.int (nI (k)), .int (nI (p)), .ref 23, .ref 24])) (h' := (Wd C e P Q m N R t Z)) (fun _ _ => rfl) ?_
    refine eR.call (k' := 117) (as := [.ref 23, .int (nI (p)), .int (nI (k))]) (rest := [.ref 24]) (v := some (.int (nI (sa e p k)))) (h1 := (Wd C e P Q m N R t Z)) rfl rfl rfl rfl (eg (Nat.le_of_ble_eq_true rfl) (show 22 ≤ lo by omega) (Nat.le_of_ble_eq_true rfl)) (m_slotAt (show 66 ≤ lo - 22 by omega) hD (by omega)) ?_
    have h6 := he.1 (sa e p k)
    refine eR.ld24 rfl (by omega) ?_
    rw [fs]
    by_cases h : si e p k = 0
    · rw [if_pos h, fi_n (by omega)]
      refine eR.ifc rfl false ((nc_ne (b := 0) (by omega) (by decide)).trans (decide_eq_false (fun z => z h))) ?_
      refine eR.step 1 (F' := (26, [(0, .ref 23), (1, .int (nI (p))), (2, .int (nI (k)))], [.int (nI (k))])) (h' := (Wd C e P Q m N R t Z)) (fun _ _ => rfl) ?_
      exact eR.ret rfl rfl rfl
    · rw [if_neg h]
      refine eR.ifc rfl true ((nc_ne (b := 0) (by omega) (by decide)).trans (decide_eq_true (h))) ?_
      refine eR.step 1 (F' := (30, [(0, .ref 23), (1, .int (nI (p))), (2, .int (nI (k) + 1))], [])) (h' := (Wd C e P Q m N R t Z)) (fun _ _ => rfl) ?_
      rw [show nI (k) + 1 = nI (k + 1) from nI_add (k) 1]
      refine eR.step 1 (F' := (2, [(0, .ref 23), (1, .int (nI (p))), (2, .int (nI (k + 1)))], [])) (h' := (Wd C e P Q m N R t Z)) (fun _ _ => rfl) ?_
      exact l_freeS hlo he hD q (k + 1) (by omega) (by omega)
theorem m_freeS {cm sm fr lo : Nat} {C : gC} {e : Nat → Nat} {P Q : gT} {m : Nat} {N : Nat → Nat} {R : gS} {t : Nat} {Z : mj_H} (hlo : 88 ≤ lo) (he : dk e) {p : Nat} (hD : gD e p)  : eE mm_P cm sm (fr + 5) lo 135 [.ref 23, .int (nI (p))] (Wd C e P Q m N R t Z) (.inl (some (.int (fi (fs e p 0 2 (sn e p - 2))))), (Wd C e P Q m N R t Z)) := by
  refine eE.of ?_
  have h2 := hD.2.2.1
  refine eR.step 2 (F' := (2, [(0, .ref 23), (1, .int (nI (p))), (2, .int (nI 2))], [])) (h' := (Wd C e P Q m N R t Z)) (fun _ _ => rfl) ?_
  exact l_freeS hlo he hD (sn e p - 2) 2 (by omega) (by omega)
theorem mc_fi0 {n : Nat} (h : n = 0) : mj_cmp .lt (fi n) 0 = true := by rw [fi_0 h]; rfl
theorem mc_fin {n : Nat} (h : ¬ n = 0) (hn : n < 2 ^ 31) : mj_cmp .lt (fi n) 0 = false := by rw [fi_n h]; exact (nc_lt (b := 0) hn (by decide)).trans (decide_eq_false (by omega))
theorem mc_gi0 {n : Nat} (h : n = 0) : mj_cmp .ge (fi n) 0 = false := by rw [fi_0 h]; rfl
theorem mc_gin {n : Nat} (h : ¬ n = 0) (hn : n < 2 ^ 31) : mj_cmp .ge (fi n) 0 = true := by rw [fi_n h]; exact (nc_ge (b := 0) hn (by decide)).trans (decide_eq_true (by omega))
theorem fs_b (e : Nat → Nat) (p n : Nat) : ∀ j, fs e p 0 j n < j + n + 1 := by
  intro j
  rcases fs_spec e p 0 n j with h | h
  · rw [h.1]; omega
  · omega
theorem m_room {cm sm fr lo : Nat} {C : gC} {e : Nat → Nat} {P Q : gT} {m : Nat} {N : Nat → Nat} {R : gS} {t : Nat} {Z : mj_H} (hlo : 110 ≤ lo) (he : dk e) {p : Nat} (hD : gD e p)  : eE mm_P cm sm (fr + 6) lo 134 [.ref 23, .int (nI (p))] (Wd C e P Q m N R t Z) (.inl (some (.int (nI (rN e p)))), (Wd C e P Q m N R t Z)) := by
  refine eE.of ?_
  have h24 := sn_le e p
  have h25 := fs_b e p (sn e p - 2) 2
  refine eR.step 2 (F' := (2, [(0, .ref 23), (1, .int (nI (p)))], [.int (nI (p)), .ref 23])) (h' := (Wd C e P Q m N R t Z)) (fun _ _ => rfl) ?_
  refine eR.call (k' := 135) (as := [.ref 23, .int (nI (p))]) (rest := []) (v := some (.int (fi (fs e p 0 2 (sn e p - 2))))) (h1 := (Wd C e P Q m N R t Z)) rfl rfl rfl rfl (eg (Nat.le_of_ble_eq_true rfl) (show 22 ≤ lo by omega) (Nat.le_of_ble_eq_true rfl)) (m_freeS (show 88 ≤ lo - 22 by omega) he hD) ?_
  unfold rN
  by_cases h : fs e p 0 2 (sn e p - 2) = 0
  · rw [if_neg (fun z => z h)]
    refine eR.ifc rfl true (mc_fi0 h) ?_
    refine eR.step 2 (F' := (14, [(0, .ref 23), (1, .int (nI (p)))], [.int (nI (p)), .ref 23])) (h' := (Wd C e P Q m N R t Z)) (fun _ _ => rfl) ?_
    refine eR.call (k' := 130) (as := [.ref 23, .int (nI (p))]) (rest := []) (v := some (.int (nI (sn e p)))) (h1 := (Wd C e P Q m N R t Z)) rfl rfl rfl rfl (eg (Nat.le_of_ble_eq_true rfl) (show 21 ≤ lo by omega) (Nat.le_of_ble_eq_true rfl)) (m_slots (show 41 ≤ lo - 21 by omega) he hD) ?_
    refine eR.step 1 (F' := (19, [(0, .ref 23), (1, .int (nI (p)))], [.int (nI 24), .int (nI (sn e p))])) (h' := (Wd C e P Q m N R t Z)) (fun _ _ => rfl) ?_
    by_cases h2 : sn e p = 24
    · rw [if_pos h2]
      refine eR.icmp rfl false ((nc_ne (by omega) (by omega)).trans (decide_eq_false (by omega))) ?_
      refine eR.step 2 (F' := (42, [(0, .ref 23), (1, .int (nI (p)))], [.int (nI 99)])) (h' := (Wd C e P Q m N R t Z)) (fun _ _ => rfl) ?_
      exact eR.ret rfl rfl rfl
    · rw [if_neg h2]
      refine eR.icmp rfl true ((nc_ne (by omega) (by omega)).trans (decide_eq_true (by omega))) ?_
      refine eR.step 2 (F' := (29, [(0, .ref 23), (1, .int (nI (p)))], [.int (nI (p)), .ref 23])) (h' := (Wd C e P Q m N R t Z)) (fun _ _ => rfl) ?_
      refine eR.call (k' := 130) (as := [.ref 23, .int (nI (p))]) (rest := []) (v := some (.int (nI (sn e p)))) (h1 := (Wd C e P Q m N R t Z)) rfl rfl rfl rfl (eg (Nat.le_of_ble_eq_true rfl) (show 21 ≤ lo by omega) (Nat.le_of_ble_eq_true rfl)) (m_slots (show 41 ≤ lo - 21 by omega) he hD) ?_
      refine eR.step 1 (F' := (33, [(0, .ref 23), (1, .int (nI (p)))], [.int (nI 4), .int (nI (sn e p))])) (h' := (Wd C e P Q m N R t Z)) (fun _ _ => rfl) ?_
      refine eR.nrem rfl (by omega) (by decide) (by decide) ?_
      by_cases h3 : sn e p % 4 = 0
      · rw [if_pos h3]
        refine eR.ifc rfl false ((nc_ne (b := 0) (by omega) (by decide)).trans (decide_eq_false (by omega))) ?_
        refine eR.step 2 (F' := (42, [(0, .ref 23), (1, .int (nI (p)))], [.int (nI 1)])) (h' := (Wd C e P Q m N R t Z)) (fun _ _ => rfl) ?_
        exact eR.ret rfl rfl rfl
      · rw [if_neg h3]
        refine eR.ifc rfl true ((nc_ne (b := 0) (by omega) (by decide)).trans (decide_eq_true (by omega))) ?_
        refine eR.step 1 (F' := (42, [(0, .ref 23), (1, .int (nI (p)))], [.int (nI 0)])) (h' := (Wd C e P Q m N R t Z)) (fun _ _ => rfl) ?_
        exact eR.ret rfl rfl rfl
  · rw [if_pos h]
    refine eR.ifc rfl false (mc_fin h (by omega)) ?_
    refine eR.step 2 (F' := (42, [(0, .ref 23), (1, .int (nI (p)))], [.int (nI 0)])) (h' := (Wd C e P Q m N R t Z)) (fun _ _ => rfl) ?_
    exact eR.ret rfl rfl rfl
theorem l_clr {cm sm fr lo : Nat} {C : gC} {e : Nat → Nat} {P Q : gT} {m : Nat} {N : Nat → Nat} {R : gS} {t : Nat} {Z : mj_H} (he : dk e) {p j a : Nat} (ha : a + 8 ≤ 2048) : ∀ (q k : Nat), k + q = 8 → eR mm_P cm sm fr lo 144 (10, [(0, .ref 23), (1, .int (nI (p))), (2, .int (nI (j))), (3, .int (nI (a))), (4, .int (nI (k)))], []) (Wd C (cz e a k) P Q m N R t Z) (.inl none, (Wd C (cz e a 8) P Q m N R t Z))
  | 0, k, h1 => by
    have e0 : k = 8 := by omega
    subst e0
    refine eR.step 2 (F' := (14, [(0, .ref 23), (1, .int (nI (p))), (2, .int (nI (j))), (3, .int (nI (a))), (4, .int (nI 8))], [.int (nI 8), .int (nI 8)])) (h' := (Wd C (cz e a 8) P Q m N R t Z)) (fun _ _ => rfl) ?_
    refine eR.icmp rfl true ((nc_ge (by omega) (by omega)).trans (decide_eq_true (by omega))) ?_
    exact eR.ret rfl rfl rfl
  | q + 1, k, h1 => by
    refine eR.step 2 (F' := (14, [(0, .ref 23), (1, .int (nI (p))), (2, .int (nI (j))), (3, .int (nI (a))), (4, .int (nI (k)))], [.int (nI 8), .int (nI (k))])) (h' := (Wd C (cz e a k) P Q m N R t Z)) (fun _ _ => rfl) ?_
    refine eR.icmp rfl false ((nc_ge (by omega) (by omega)).trans (decide_eq_false (by omega))) ?_
    refine eR.step 4 (F' := (24, [(0, .ref 23), (1, .int (nI (p))), (2, .int (nI (j))), (3, .int (nI (a))), (4, .int (nI (k)))], [.int (nI (k)), .int (nI (a)), .ref 24])) (h' := (Wd C (cz e a k) P Q m N R t Z)) (fun _ _ => rfl) ?_
    refine eR.nadd rfl ?_
    refine eR.step 1 (F' := (26, [(0, .ref 23), (1, .int (nI (p))), (2, .int (nI (j))), (3, .int (nI (a))), (4, .int (nI (k)))], [.int (nI 0), .int (nI (a + k)), .ref 24])) (h' := (Wd C (cz e a k) P Q m N R t Z)) (fun _ _ => rfl) ?_
    refine eR.st24 rfl (by omega) (by decide) ?_
    rw [cz_s he]
    refine eR.step 1 (F' := (30, [(0, .ref 23), (1, .int (nI (p))), (2, .int (nI (j))), (3, .int (nI (a))), (4, .int (nI (k) + 1))], [])) (h' := (Wd C (cz e a (k + 1)) P Q m N R t Z)) (fun _ _ => rfl) ?_
    rw [show nI (k) + 1 = nI (k + 1) from nI_add (k) 1]
    refine eR.step 1 (F' := (10, [(0, .ref 23), (1, .int (nI (p))), (2, .int (nI (j))), (3, .int (nI (a))), (4, .int (nI (k + 1)))], [])) (h' := (Wd C (cz e a (k + 1)) P Q m N R t Z)) (fun _ _ => rfl) ?_
    exact l_clr he ha q (k + 1) (by omega)
theorem m_clr {cm sm fr lo : Nat} {C : gC} {e : Nat → Nat} {P Q : gT} {m : Nat} {N : Nat → Nat} {R : gS} {t : Nat} {Z : mj_H} (hlo : 88 ≤ lo) (he : dk e) {p : Nat} (hD : gD e p) {j : Nat} (hj : j < 24) : eE mm_P cm sm (fr + 5) lo 144 [.ref 23, .int (nI (p)), .int (nI (j))] (Wd C e P Q m N R t Z) (.inl (none), (Wd C (cz e (sa e p j) 8) P Q m N R t Z)) := by
  refine eE.of ?_
  refine eR.step 3 (F' := (3, [(0, .ref 23), (1, .int (nI (p))), (2, .int (nI (j)))], [.int (nI (j)), .int (nI (p)), .ref 23])) (h' := (Wd C e P Q m N R t Z)) (fun _ _ => rfl) ?_
  refine eR.call (k' := 117) (as := [.ref 23, .int (nI (p)), .int (nI (j))]) (rest := []) (v := some (.int (nI (sa e p j)))) (h1 := (Wd C e P Q m N R t Z)) rfl rfl rfl rfl (eg (Nat.le_of_ble_eq_true rfl) (show 22 ≤ lo by omega) (Nat.le_of_ble_eq_true rfl)) (m_slotAt (show 66 ≤ lo - 22 by omega) hD hj) ?_
  refine eR.step 3 (F' := (10, [(0, .ref 23), (1, .int (nI (p))), (2, .int (nI (j))), (3, .int (nI (sa e p j))), (4, .int (nI 0))], [])) (h' := (Wd C e P Q m N R t Z)) (fun _ _ => rfl) ?_
  have h := l_clr (C := C) (P := P) (Q := Q) (m := m) (N := N) (R := R) (t := t) (Z := Z) (cm := cm) (sm := sm) (fr := fr + 4) (lo := lo) he (p := p) (j := j) (sa_2040 hD hj) 8 0 (by omega)
  rw [cz_0] at h
  exact h

