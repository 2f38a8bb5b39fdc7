/-- n letters of a name from its letter k on, out of the path at i; b: still in the name -/
def cn (t : Nat → Nat) (l i : Nat) : (Nat → Nat) → Bool → Nat → Nat → (Nat → Nat)
  | nm, _, _, 0 => nm
  | nm, b, k, n + 1 => if b = true ∧ i + k < l ∧ t (i + k) ≠ 47 then cn t l i (ut nm k (t (i + k))) true (k + 1) n else cn t l i (ut nm k 0) false (k + 1) n
theorem ut_lt {t : Nat → Nat} {b l c : Nat} (h : ∀ k, t k < b) (hc : c < b) : ∀ k, ut t l c k < b := by
  intro k
  unfold ut
  split
  · exact hc
  · exact h k
theorem cn_lt {t : Nat → Nat} {l i : Nat} (hs : ∀ k, k < l → t k < 128) : ∀ (n k : Nat) (nm : Nat → Nat) (b : Bool), (∀ j, nm j < 128) → ∀ j, cn t l i nm b k n j < 128
  | 0, _, _, _, h => h
  | n + 1, k, nm, b, h => by
    unfold cn
    split
    · next z => exact cn_lt hs n (k + 1) _ _ (ut_lt h (hs _ z.2.1))
    · exact cn_lt hs n (k + 1) _ _ (ut_lt h (by decide))
theorem ip_lt {t : Nat → Nat} {l : Nat} : ∀ (n i c : Nat), ip t l i c n = true → ∀ k, i ≤ k → k < i + n → t k < 128
  | 0, _, _, _, k, h1, h2 => by omega
  | n + 1, i, c, h, k, h1, h2 => by
    unfold ip at h
    by_cases hk : k = i
    · rw [hk]
      split at h
      · omega
      · split at h
        · omega
        · exact absurd h (by decide)
    · split at h
      · split at h
        · exact absurd h (by decide)
        · exact ip_lt n (i + 1) 0 h k (by omega) (by omega)
      · split at h
        · exact ip_lt n (i + 1) (c + 1) h k (by omega) (by omega)
        · exact absurd h (by decide)
theorem isP_lt {t : Nat → Nat} {l : Nat} (h : isP t l = true) : ∀ k, k < l → t k < 128 := by
  intro k hk
  unfold isP at h
  split at h
  · exact absurd h (by decide)
  · split at h
    · by_cases h0 : k = 0
      · rw [h0]; omega
      · exact ip_lt (l - 1) 1 0 h k (by omega) (by omega)
    · exact absurd h (by decide)
theorem isP_pos {t : Nat → Nat} {l : Nat} (h : isP t l = true) : 0 < l := by
  unfold isP at h
  split at h
  · exact absurd h (by decide)
  · omega
/-- one name of a path followed from the inode no -/
def st1 (d t : Nat → Nat) (l i no : Nat) (nm : Nat → Nat) : gU :=
  if d (32 + (16 * no)) = 2 then (if no = 0 then (0, 0, 0, cn t l i nm true 0 7) else if fd d no (cn t l i nm true 0 7) 2 (sn d no - 2) = 0 then (no, 0, 0, cn t l i nm true 0 7)
    else (no, fd d no (cn t l i nm true 0 7) 2 (sn d no - 2), si d no (fd d no (cn t l i nm true 0 7) 2 (sn d no - 2)), cn t l i nm true 0 7)) else (0, 0, 0, cn t l i nm true 0 7)
def fw1 (d t : Nat → Nat) (l : Nat) : gU → Nat → Nat → gU
  | U, _, 0 => U
  | U, i, n + 1 => fw1 d t l (if sN t l i = true then st1 d t l i U.2.2.1 U.2.2.2 else U) (i + 1) n
/-- where a path leads -/
def fw (d t : Nat → Nat) (l : Nat) (U : gU) : gU := if isP t l = true then fw1 d t l (0, 0, 1, U.2.2.2) 1 (l - 1) else (0, 0, 0, U.2.2.2)
theorem bj_t {b : Bool} (h : b = true) : bi b = 1 := by rw [h]; rfl
theorem bj_f {b : Bool} (h : ¬ b = true) : bi b = 0 := by rw [Bool.eq_false_iff.mpr h]; rfl
/-- a path copied -/
def bc (s : Nat → Nat) : (Nat → Nat) → Nat → Nat → (Nat → Nat)
  | t, _, 0 => t
  | t, i, n + 1 => bc s (ut t i (s i)) (i + 1) n
def ms (a : Nat) : (Nat → Nat) → Nat → Nat → (Nat → Nat)
  | d, _, 0 => d
  | d, i, n + 1 => ms a (tb d a i) (i + 1) n
theorem ms_dk (a : Nat) : ∀ (n : Nat) (d : Nat → Nat) (i : Nat), dk d → dk (ms a d i n)
  | 0, _, _, h => h
  | n + 1, d, i, h => ms_dk a n _ (i + 1) (dp_dk h _ _)
theorem l_startM_6 {cm sm fr lo L : Nat} {xs : Nat → Int32} {A B : gT} {U V : gU} {S : gS} {X : mj_H} (hlo : 23 ≤ lo) : ∀ (n i : Nat) (d : Nat → Nat), dk d → i + n = 1 → eR mm_P cm sm (fr + 1) lo 11 (2, [(0, .ref 6), (1, .int (nI (i)))], []) (Gc L xs A B U V S d X) (.inl none, (Gc L xs A B U V S (ms 1 d i n) X))
  | 0, i, d, hd, hq => by
    refine eR.step 3 (F' := (7, [(0, .ref 6), (1, .int (nI (i)))], [.int (nI 1), .int (nI (i))])) (h' := (Gc L xs A B U V S d X)) (fun _ _ => rfl) ?_
    refine eR.icmp rfl true ((nc_ge (by omega) (by omega)).trans (decide_eq_true (by omega))) ?_
    exact eR.ret rfl rfl rfl
  | n + 1, i, d, hd, hq => by
    refine eR.step 3 (F' := (7, [(0, .ref 6), (1, .int (nI (i)))], [.int (nI 1), .int (nI (i))])) (h' := (Gc L xs A B U V S d X)) (fun _ _ => rfl) ?_
    refine eR.icmp rfl false ((nc_ge (by omega) (by omega)).trans (decide_eq_false (by omega))) ?_
    refine eR.step 5 (F' := (19, [(0, .ref 6), (1, .int (nI (i)))], [.int (nI (i)), .int (nI 1), .ref 4])) (h' := (Gc L xs A B U V S d X)) (fun _ _ => rfl) ?_
    refine eR.call (k' := 12) (as := [.ref 4, .int (nI 1), .int (nI (i))]) (rest := []) (v := none) (h1 := (Gc L xs A B U V S (tb d 1 i) X)) rfl rfl rfl rfl (eg (Nat.le_of_ble_eq_true rfl) (show 23 ≤ lo by omega) (Nat.le_of_ble_eq_true rfl)) (c_turnBit hd (by decide) (by omega)) ?_
    refine eR.step 1 (F' := (25, [(0, .ref 6), (1, .int (nI (i) + 1))], [])) (h' := (Gc L xs A B U V S (tb d 1 i) X)) (fun _ _ => rfl) ?_
    rw [show nI (i) + 1 = nI (i + 1) from nI_add (i) 1]
    refine eR.step 1 (F' := (2, [(0, .ref 6), (1, .int (nI (i + 1)))], [])) (h' := (Gc L xs A B U V S (tb d 1 i) X)) (fun _ _ => rfl) ?_
    exact l_startM_6 hlo n (i + 1) _ (dp_dk hd _ _) (by omega)
theorem c_startM_6 {cm sm fr lo L : Nat} {xs : Nat → Int32} {A B : gT} {U V : gU} {S : gS} {d : Nat → Nat} {X : mj_H} (hlo : 23 ≤ lo) (hd : dk d) : eE mm_P cm sm (fr + 2) lo 11 [.ref 6] (Gc L xs A B U V S d X) (.inl (none), Gc L xs A B U V S (ms 1 d 0 1) X) := by
  refine eE.of ?_
  refine eR.step 2 (F' := (2, [(0, .ref 6), (1, .int (nI 0))], [])) (h' := (Gc L xs A B U V S d X)) (fun _ _ => rfl) ?_
  exact l_startM_6 hlo 1 0 d hd (by decide)
theorem l_startM_7 {cm sm fr lo L : Nat} {xs : Nat → Int32} {A B : gT} {U V : gU} {S : gS} {X : mj_H} (hlo : 23 ≤ lo) : ∀ (n i : Nat) (d : Nat → Nat), dk d → i + n = 9 → eR mm_P cm sm (fr + 1) lo 11 (2, [(0, .ref 7), (1, .int (nI (i)))], []) (Gc L xs A B U V S d X) (.inl none, (Gc L xs A B U V S (ms 3 d i n) X))
  | 0, i, d, hd, hq => by
    refine eR.step 3 (F' := (7, [(0, .ref 7), (1, .int (nI (i)))], [.int (nI 9), .int (nI (i))])) (h' := (Gc L xs A B U V S d X)) (fun _ _ => rfl) ?_
    refine eR.icmp rfl true ((nc_ge (by omega) (by omega)).trans (decide_eq_true (by omega))) ?_
    exact eR.ret rfl rfl rfl
  | n + 1, i, d, hd, hq => by
    refine eR.step 3 (F' := (7, [(0, .ref 7), (1, .int (nI (i)))], [.int (nI 9), .int (nI (i))])) (h' := (Gc L xs A B U V S d X)) (fun _ _ => rfl) ?_
    refine eR.icmp rfl false ((nc_ge (by omega) (by omega)).trans (decide_eq_false (by omega))) ?_
    refine eR.step 5 (F' := (19, [(0, .ref 7), (1, .int (nI (i)))], [.int (nI (i)), .int (nI 3), .ref 4])) (h' := (Gc L xs A B U V S d X)) (fun _ _ => rfl) ?_
    refine eR.call (k' := 12) (as := [.ref 4, .int (nI 3), .int (nI (i))]) (rest := []) (v := none) (h1 := (Gc L xs A B U V S (tb d 3 i) X)) rfl rfl rfl rfl (eg (Nat.le_of_ble_eq_true rfl) (show 23 ≤ lo by omega) (Nat.le_of_ble_eq_true rfl)) (c_turnBit hd (by decide) (by omega)) ?_
    refine eR.step 1 (F' := (25, [(0, .ref 7), (1, .int (nI (i) + 1))], [])) (h' := (Gc L xs A B U V S (tb d 3 i) X)) (fun _ _ => rfl) ?_
    rw [show nI (i) + 1 = nI (i + 1) from nI_add (i) 1]
    refine eR.step 1 (F' := (2, [(0, .ref 7), (1, .int (nI (i + 1)))], [])) (h' := (Gc L xs A B U V S (tb d 3 i) X)) (fun _ _ => rfl) ?_
    exact l_startM_7 hlo n (i + 1) _ (dp_dk hd _ _) (by omega)
theorem c_startM_7 {cm sm fr lo L : Nat} {xs : Nat → Int32} {A B : gT} {U V : gU} {S : gS} {d : Nat → Nat} {X : mj_H} (hlo : 23 ≤ lo) (hd : dk d) : eE mm_P cm sm (fr + 2) lo 11 [.ref 7] (Gc L xs A B U V S d X) (.inl (none), Gc L xs A B U V S (ms 3 d 0 9) X) := by
  refine eE.of ?_
  refine eR.step 2 (F' := (2, [(0, .ref 7), (1, .int (nI 0))], [])) (h' := (Gc L xs A B U V S d X)) (fun _ _ => rfl) ?_
  exact l_startM_7 hlo 9 0 d hd (by decide)
theorem l_become {cm sm fr lo L : Nat} {xs : Nat → Int32} {A : gT} {U V : gU} {S : gS} {d : Nat → Nat} {X : mj_H} (ht : ∀ k, A.1 k < 65536) (hl : A.2 ≤ 40) : ∀ (n i : Nat) (t : Nat → Nat), i + n = A.2 → eR mm_P cm sm fr lo 33 (10, [(0, .ref 17), (1, .ref 15), (2, .int (nI (i)))], []) (Gc L xs A (t, A.2) U V S d X) (.inl none, (Gc L xs A (bc A.1 t i n, A.2) U V S d X))
  | 0, i, t, hq => by
    refine eR.step 3 (F' := (15, [(0, .ref 17), (1, .ref 15), (2, .int (nI (i)))], [.int (nI (A.2)), .int (nI (i))])) (h' := (Gc L xs A (t, A.2) U V S d X)) (fun _ _ => rfl) ?_
    refine eR.icmp rfl true ((nc_ge (by omega) (by omega)).trans (decide_eq_true (by omega))) ?_
    exact eR.ret rfl rfl rfl
  | n + 1, i, t, hq => by
    refine eR.step 3 (F' := (15, [(0, .ref 17), (1, .ref 15), (2, .int (nI (i)))], [.int (nI (A.2)), .int (nI (i))])) (h' := (Gc L xs A (t, A.2) U V S d X)) (fun _ _ => rfl) ?_
    refine eR.icmp rfl false ((nc_ge (by omega) (by omega)).trans (decide_eq_false (by omega))) ?_
    refine eR.step 6 (F' := (28, [(0, .ref 17), (1, .ref 15), (2, .int (nI (i)))], [.int (nI (i)), .ref 16, .int (nI (i)), .ref 18])) (h' := (Gc L xs A (t, A.2) U V S d X)) (fun _ _ => rfl) ?_
    refine eR.sim rfl (F := (29, [(0, .ref 17), (1, .ref 15), (2, .int (nI (i)))], [.int (nI (A.1 i)), .int (nI (i)), .ref 18])) (h' := (Gc L xs A (t, A.2) U V S d X)) (by simp [mj_sim, mj_ar, mj_gi, Gc, na_ix (show i < 40 by omega) (by decide)]) ?_
    refine eR.sim rfl (F := (30, [(0, .ref 17), (1, .ref 15), (2, .int (nI (i)))], [])) (h' := (Gc L xs A (ut t i (A.1 i), A.2) U V S d X)) (by simp [mj_sim, mj_ar, mj_pi, mj_nw, Gc, na_ix (show i < 40 by omega) (by decide), ch_eq (ht i), ut_eq]) ?_
    refine eR.step 1 (F' := (33, [(0, .ref 17), (1, .ref 15), (2, .int (nI (i) + 1))], [])) (h' := (Gc L xs A (ut t i (A.1 i), A.2) U V S d X)) (fun _ _ => rfl) ?_
    rw [show nI (i) + 1 = nI (i + 1) from nI_add (i) 1]
    refine eR.step 1 (F' := (10, [(0, .ref 17), (1, .ref 15), (2, .int (nI (i + 1)))], [])) (h' := (Gc L xs A (ut t i (A.1 i), A.2) U V S d X)) (fun _ _ => rfl) ?_
    exact l_become ht hl n (i + 1) _ (by omega)
theorem c_become {cm sm fr lo L : Nat} {xs : Nat → Int32} {A B : gT} {U V : gU} {S : gS} {d : Nat → Nat} {X : mj_H} (ht : ∀ k, A.1 k < 65536) (hl : A.2 ≤ 40) : eE mm_P cm sm (fr + 1) lo 33 [.ref 17, .ref 15] (Gc L xs A B U V S d X) (.inl (none), (Gc L xs A (bc A.1 B.1 0 A.2, A.2) U V S d X)) := by
  refine eE.of ?_
  refine eR.step 3 (F' := (5, [(0, .ref 17), (1, .ref 15)], [.int (nI (A.2)), .ref 17])) (h' := (Gc L xs A B U V S d X)) (fun _ _ => rfl) ?_
  refine eR.sim rfl (F := (8, [(0, .ref 17), (1, .ref 15)], [])) (h' := (Gc L xs A (B.1, A.2) U V S d X)) (by rfl) ?_
  refine eR.step 2 (F' := (10, [(0, .ref 17), (1, .ref 15), (2, .int (nI 0))], [])) (h' := (Gc L xs A (B.1, A.2) U V S d X)) (fun _ _ => rfl) ?_
  exact l_become ht hl A.2 0 B.1 (by omega)
theorem l_copyName_15 {cm sm fr lo L : Nat} {xs : Nat → Int32} {A B : gT} {U V : gU} {S : gS} {d : Nat → Nat} {X : mj_H} (hs : ∀ k, k < A.2 → A.1 k < 128) (hl : A.2 ≤ 40) {i : Nat} (hi : i < 2 ^ 20) : ∀ (n k : Nat) (b : Bool) (nm : Nat → Nat), k + n = 7 → eR mm_P cm sm fr lo 69 (13, [(0, .ref 15), (1, .int (nI (i))), (2, .ref 20), (3, .int (nI (bi b))), (4, .int (nI (k)))], []) (Gc L xs A B (U.1, U.2.1, U.2.2.1, nm) V S d X) (.inl none, (Gc L xs A B (U.1, U.2.1, U.2.2.1, cn A.1 A.2 i nm b k n) V S d X))
  | 0, k, b, nm, hq => by
    refine eR.step 3 (F' := (17, [(0, .ref 15), (1, .int (nI (i))), (2, .ref 20), (3, .int (nI (bi b))), (4, .int (nI (k)))], [.int (nI 7), .int (nI (k))])) (h' := (Gc L xs A B (U.1, U.2.1, U.2.2.1, nm) V S d X)) (fun _ _ => rfl) ?_
    refine eR.icmp rfl true ((nc_ge (by omega) (by decide)).trans (decide_eq_true (by omega))) ?_
    exact eR.ret rfl rfl rfl
  | n + 1, k, b, nm, hq => by
    unfold cn
    cases b
    · rw [if_neg (fun z => Bool.noConfusion z.1)]
      refine eR.step 3 (F' := (17, [(0, .ref 15), (1, .int (nI (i))), (2, .ref 20), (3, .int (nI (bi false))), (4, .int (nI (k)))], [.int (nI 7), .int (nI (k))])) (h' := (Gc L xs A B (U.1, U.2.1, U.2.2.1, nm) V S d X)) (fun _ _ => rfl) ?_
      refine eR.icmp rfl false ((nc_ge (by omega) (by decide)).trans (decide_eq_false (by omega))) ?_
      refine eR.step 1 (F' := (21, [(0, .ref 15), (1, .int (nI (i))), (2, .ref 20), (3, .int (nI (bi false))), (4, .int (nI (k)))], [.int (nI (bi false))])) (h' := (Gc L xs A B (U.1, U.2.1, U.2.2.1, nm) V S d X)) (fun _ _ => rfl) ?_
      refine eR.ifc rfl true rfl ?_
      refine eR.step 5 (F' := (59, [(0, .ref 15), (1, .int (nI (i))), (2, .ref 20), (3, .int (nI 0)), (4, .int (nI (k)))], [.int (nI 0), .int (nI (k)), .ref 20])) (h' := (Gc L xs A B (U.1, U.2.1, U.2.2.1, nm) V S d X)) (fun _ _ => rfl) ?_
      refine eR.ifc rfl true rfl ?_
      refine eR.step 1 (F' := (76, [(0, .ref 15), (1, .int (nI (i))), (2, .ref 20), (3, .int (nI 0)), (4, .int (nI (k)))], [.int (nI 0), .int (nI (k)), .ref 20])) (h' := (Gc L xs A B (U.1, U.2.1, U.2.2.1, nm) V S d X)) (fun _ _ => rfl) ?_
      refine eR.sim rfl (F := (77, [(0, .ref 15), (1, .int (nI (i))), (2, .ref 20), (3, .int (nI 0)), (4, .int (nI (k)))], [])) (h' := (Gc L xs A B (U.1, U.2.1, U.2.2.1, ut nm k 0) V S d X)) (by simp [mj_sim, mj_ar, mj_pi, mj_nw, Gc, na_ix (show k < 7 by omega) (by decide)]; exact un_eq nm k 0) ?_
      refine eR.step 1 (F' := (80, [(0, .ref 15), (1, .int (nI (i))), (2, .ref 20), (3, .int (nI 0)), (4, .int (nI (k) + 1))], [])) (h' := (Gc L xs A B (U.1, U.2.1, U.2.2.1, ut nm k 0) V S d X)) (fun _ _ => rfl) ?_
      rw [show nI (k) + 1 = nI (k + 1) from nI_add (k) 1]
      refine eR.step 1 (F' := (13, [(0, .ref 15), (1, .int (nI (i))), (2, .ref 20), (3, .int (nI 0)), (4, .int (nI (k + 1)))], [])) (h' := (Gc L xs A B (U.1, U.2.1, U.2.2.1, ut nm k 0) V S d X)) (fun _ _ => rfl) ?_
      exact l_copyName_15 hs hl hi n (k + 1) false _ (by omega)
    · refine eR.step 3 (F' := (17, [(0, .ref 15), (1, .int (nI (i))), (2, .ref 20), (3, .int (nI (bi true))), (4, .int (nI (k)))], [.int (nI 7), .int (nI (k))])) (h' := (Gc L xs A B (U.1, U.2.1, U.2.2.1, nm) V S d X)) (fun _ _ => rfl) ?_
      refine eR.icmp rfl false ((nc_ge (by omega) (by decide)).trans (decide_eq_false (by omega))) ?_
      refine eR.step 1 (F' := (21, [(0, .ref 15), (1, .int (nI (i))), (2, .ref 20), (3, .int (nI (bi true))), (4, .int (nI (k)))], [.int (nI (bi true))])) (h' := (Gc L xs A B (U.1, U.2.1, U.2.2.1, nm) V S d X)) (fun _ _ => rfl) ?_
      refine eR.ifc rfl false rfl ?_
      refine eR.step 2 (F' := (27, [(0, .ref 15), (1, .int (nI (i))), (2, .ref 20), (3, .int (nI (bi true))), (4, .int (nI (k)))], [.int (nI (k)), .int (nI (i))])) (h' := (Gc L xs A B (U.1, U.2.1, U.2.2.1, nm) V S d X)) (fun _ _ => rfl) ?_
      refine eR.nadd rfl ?_
      refine eR.step 2 (F' := (32, [(0, .ref 15), (1, .int (nI (i))), (2, .ref 20), (3, .int (nI (bi true))), (4, .int (nI (k)))], [.int (nI (A.2)), .int (nI (i + k))])) (h' := (Gc L xs A B (U.1, U.2.1, U.2.2.1, nm) V S d X)) (fun _ _ => rfl) ?_
      by_cases h0 : i + k < A.2
      · have h6 := hs _ h0
        refine eR.icmp rfl false ((nc_ge (by omega) (by omega)).trans (decide_eq_false (by omega))) ?_
        refine eR.step 4 (F' := (42, [(0, .ref 15), (1, .int (nI (i))), (2, .ref 20), (3, .int (nI (bi true))), (4, .int (nI (k)))], [.int (nI (k)), .int (nI (i)), .ref 16])) (h' := (Gc L xs A B (U.1, U.2.1, U.2.2.1, nm) V S d X)) (fun _ _ => rfl) ?_
        refine eR.nadd rfl ?_
        refine eR.sim rfl (F := (44, [(0, .ref 15), (1, .int (nI (i))), (2, .ref 20), (3, .int (nI (bi true))), (4, .int (nI (k)))], [.int (nI (A.1 (i + k)))])) (h' := (Gc L xs A B (U.1, U.2.1, U.2.2.1, nm) V S d X)) (by simp [mj_sim, mj_ar, mj_gi, Gc, na_ix (show i + k < 40 by omega) (by decide)]) ?_
        refine eR.step 1 (F' := (46, [(0, .ref 15), (1, .int (nI (i))), (2, .ref 20), (3, .int (nI (bi true))), (4, .int (nI (k)))], [.int (nI 47), .int (nI (A.1 (i + k)))])) (h' := (Gc L xs A B (U.1, U.2.1, U.2.2.1, nm) V S d X)) (fun _ _ => rfl) ?_
        by_cases h1 : A.1 (i + k) = 47
        · rw [if_neg (fun z => z.2.2 h1)]
          refine eR.icmp rfl true ((nc_eq (by omega) (by decide)).trans (decide_eq_true (by omega))) ?_
          refine eR.step 5 (F' := (59, [(0, .ref 15), (1, .int (nI (i))), (2, .ref 20), (3, .int (nI 0)), (4, .int (nI (k)))], [.int (nI 0), .int (nI (k)), .ref 20])) (h' := (Gc L xs A B (U.1, U.2.1, U.2.2.1, nm) V S d X)) (fun _ _ => rfl) ?_
          refine eR.ifc rfl true rfl ?_
          refine eR.step 1 (F' := (76, [(0, .ref 15), (1, .int (nI (i))), (2, .ref 20), (3, .int (nI 0)), (4, .int (nI (k)))], [.int (nI 0), .int (nI (k)), .ref 20])) (h' := (Gc L xs A B (U.1, U.2.1, U.2.2.1, nm) V S d X)) (fun _ _ => rfl) ?_
          refine eR.sim rfl (F := (77, [(0, .ref 15), (1, .int (nI (i))), (2, .ref 20), (3, .int (nI 0)), (4, .int (nI (k)))], [])) (h' := (Gc L xs A B (U.1, U.2.1, U.2.2.1, ut nm k 0) V S d X)) (by simp [mj_sim, mj_ar, mj_pi, mj_nw, Gc, na_ix (show k < 7 by omega) (by decide)]; exact un_eq nm k 0) ?_
          refine eR.step 1 (F' := (80, [(0, .ref 15), (1, .int (nI (i))), (2, .ref 20), (3, .int (nI 0)), (4, .int (nI (k) + 1))], [])) (h' := (Gc L xs A B (U.1, U.2.1, U.2.2.1, ut nm k 0) V S d X)) (fun _ _ => rfl) ?_
          rw [show nI (k) + 1 = nI (k + 1) from nI_add (k) 1]
          refine eR.step 1 (F' := (13, [(0, .ref 15), (1, .int (nI (i))), (2, .ref 20), (3, .int (nI 0)), (4, .int (nI (k + 1)))], [])) (h' := (Gc L xs A B (U.1, U.2.1, U.2.2.1, ut nm k 0) V S d X)) (fun _ _ => rfl) ?_
          exact l_copyName_15 hs hl hi n (k + 1) false _ (by omega)
        · rw [if_pos ⟨rfl, h0, h1⟩]
          refine eR.icmp rfl false ((nc_eq (by omega) (by decide)).trans (decide_eq_false (by omega))) ?_
          refine eR.step 6 (F' := (59, [(0, .ref 15), (1, .int (nI (i))), (2, .ref 20), (3, .int (nI 1)), (4, .int (nI (k)))], [.int (nI 1), .int (nI (k)), .ref 20])) (h' := (Gc L xs A B (U.1, U.2.1, U.2.2.1, nm) V S d X)) (fun _ _ => rfl) ?_
          refine eR.ifc rfl false rfl ?_
          refine eR.step 4 (F' := (69, [(0, .ref 15), (1, .int (nI (i))), (2, .ref 20), (3, .int (nI 1)), (4, .int (nI (k)))], [.int (nI (k)), .int (nI (i)), .ref 16, .int (nI (k)), .ref 20])) (h' := (Gc L xs A B (U.1, U.2.1, U.2.2.1, nm) V S d X)) (fun _ _ => rfl) ?_
          refine eR.nadd rfl ?_
          refine eR.sim rfl (F := (71, [(0, .ref 15), (1, .int (nI (i))), (2, .ref 20), (3, .int (nI 1)), (4, .int (nI (k)))], [.int (nI (A.1 (i + k))), .int (nI (k)), .ref 20])) (h' := (Gc L xs A B (U.1, U.2.1, U.2.2.1, nm) V S d X)) (by simp [mj_sim, mj_ar, mj_gi, Gc, na_ix (show i + k < 40 by omega) (by decide)]) ?_
          refine eR.sim rfl (F := (72, [(0, .ref 15), (1, .int (nI (i))), (2, .ref 20), (3, .int (nI 1)), (4, .int (nI (k)))], [.int ((nI (A.1 (i + k))).toInt8.toInt32), .int (nI (k)), .ref 20])) (h' := (Gc L xs A B (U.1, U.2.1, U.2.2.1, nm) V S d X)) (by rfl) ?_
          refine eR.step 1 (F' := (76, [(0, .ref 15), (1, .int (nI (i))), (2, .ref 20), (3, .int (nI 1)), (4, .int (nI (k)))], [.int ((nI (A.1 (i + k))).toInt8.toInt32), .int (nI (k)), .ref 20])) (h' := (Gc L xs A B (U.1, U.2.1, U.2.2.1, nm) V S d X)) (fun _ _ => rfl) ?_
          refine eR.sim rfl (F := (77, [(0, .ref 15), (1, .int (nI (i))), (2, .ref 20), (3, .int (nI 1)), (4, .int (nI (k)))], [])) (h' := (Gc L xs A B (U.1, U.2.1, U.2.2.1, ut nm k (A.1 (i + k))) V S d X)) (by simp [mj_sim, mj_ar, mj_pi, mj_nw, Gc, na_ix (show k < 7 by omega) (by decide)]; exact un_eq nm k (A.1 (i + k))) ?_
          refine eR.step 1 (F' := (80, [(0, .ref 15), (1, .int (nI (i))), (2, .ref 20), (3, .int (nI 1)), (4, .int (nI (k) + 1))], [])) (h' := (Gc L xs A B (U.1, U.2.1, U.2.2.1, ut nm k (A.1 (i + k))) V S d X)) (fun _ _ => rfl) ?_
          rw [show nI (k) + 1 = nI (k + 1) from nI_add (k) 1]
          refine eR.step 1 (F' := (13, [(0, .ref 15), (1, .int (nI (i))), (2, .ref 20), (3, .int (nI 1)), (4, .int (nI (k + 1)))], [])) (h' := (Gc L xs A B (U.1, U.2.1, U.2.2.1, ut nm k (A.1 (i + k))) V S d X)) (fun _ _ => rfl) ?_
          exact l_copyName_15 hs hl hi n (k + 1) true _ (by omega)
      · rw [if_neg (fun z => h0 z.2.1)]
        refine eR.icmp rfl true ((nc_ge (by omega) (by omega)).trans (decide_eq_true (by omega))) ?_
        refine eR.step 5 (F' := (59, [(0, .ref 15), (1, .int (nI (i))), (2, .ref 20), (3, .int (nI 0)), (4, .int (nI (k)))], [.int (nI 0), .int (nI (k)), .ref 20])) (h' := (Gc L xs A B (U.1, U.2.1, U.2.2.1, nm) V S d X)) (fun _ _ => rfl) ?_
        refine eR.ifc rfl true rfl ?_
        refine eR.step 1 (F' := (76, [(0, .ref 15), (1, .int (nI (i))), (2, .ref 20), (3, .int (nI 0)), (4, .int (nI (k)))], [.int (nI 0), .int (nI (k)), .ref 20])) (h' := (Gc L xs A B (U.1, U.2.1, U.2.2.1, nm) V S d X)) (fun _ _ => rfl) ?_
        refine eR.sim rfl (F := (77, [(0, .ref 15), (1, .int (nI (i))), (2, .ref 20), (3, .int (nI 0)), (4, .int (nI (k)))], [])) (h' := (Gc L xs A B (U.1, U.2.1, U.2.2.1, ut nm k 0) V S d X)) (by simp [mj_sim, mj_ar, mj_pi, mj_nw, Gc, na_ix (show k < 7 by omega) (by decide)]; exact un_eq nm k 0) ?_
        refine eR.step 1 (F' := (80, [(0, .ref 15), (1, .int (nI (i))), (2, .ref 20), (3, .int (nI 0)), (4, .int (nI (k) + 1))], [])) (h' := (Gc L xs A B (U.1, U.2.1, U.2.2.1, ut nm k 0) V S d X)) (fun _ _ => rfl) ?_
        rw [show nI (k) + 1 = nI (k + 1) from nI_add (k) 1]
        refine eR.step 1 (F' := (13, [(0, .ref 15), (1, .int (nI (i))), (2, .ref 20), (3, .int (nI 0)), (4, .int (nI (k + 1)))], [])) (h' := (Gc L xs A B (U.1, U.2.1, U.2.2.1, ut nm k 0) V S d X)) (fun _ _ => rfl) ?_
        exact l_copyName_15 hs hl hi n (k + 1) false _ (by omega)
theorem c_copyName_15 {cm sm fr lo L : Nat} {xs : Nat → Int32} {A B : gT} {U V : gU} {S : gS} {d : Nat → Nat} {X : mj_H} (hs : ∀ k, k < A.2 → A.1 k < 128) (hl : A.2 ≤ 40) {i : Nat} (hi : i < 2 ^ 20) : eE mm_P cm sm (fr + 1) lo 69 [.ref 15, .int (nI (i)), .ref 20] (Gc L xs A B U V S d X) (.inl (none), (Gc L xs A B (U.1, U.2.1, U.2.2.1, cn A.1 A.2 i U.2.2.2 true 0 7) V S d X)) := by
  refine eE.of ?_
  refine eR.step 1 (F' := (1, [(0, .ref 15), (1, .int (nI (i))), (2, .ref 20)], [.int (nI (i))])) (h' := (Gc L xs A B U V S d X)) (fun _ _ => rfl) ?_
  refine eR.ifc rfl false ((nc_lt (b := 0) (by omega) (by decide)).trans (decide_eq_false (by omega))) ?_
  refine eR.step 5 (F' := (13, [(0, .ref 15), (1, .int (nI (i))), (2, .ref 20), (3, .int (nI 1)), (4, .int (nI 0))], [])) (h' := (Gc L xs A B U V S d X)) (fun _ _ => rfl) ?_
  exact l_copyName_15 hs hl hi 7 0 true U.2.2.2 (by decide)
theorem l_follow_15 {cm sm fr lo L : Nat} {xs : Nat → Int32} {A B : gT} {V : gU} {S : gS} {d : Nat → Nat} {X : mj_H} (hlo : 89 ≤ lo) (hd : dk d) (ht : ∀ k, A.1 k < 65536) (hs : ∀ k, k < A.2 → A.1 k < 128) (hl : A.2 ≤ 40) : ∀ (n i pa sl no : Nat) (nm : Nat → Nat), i + n = A.2 → no < 2 ^ 20 → (∀ k, nm k < 128) → eR mm_P cm sm (fr + 4) lo 65 (19, [(0, .ref 9), (1, .ref 15), (2, .ref 19), (3, .int (nI (i)))], []) (Gc L xs A B (pa, sl, no, nm) V S d X) (.inl none, (Gc L xs A B (fw1 d A.1 A.2 (pa, sl, no, nm) i n) V S d X))
  | 0, i, pa, sl, no, nm, hq, hno, hnm => by
    refine eR.step 2 (F' := (21, [(0, .ref 9), (1, .ref 15), (2, .ref 19), (3, .int (nI (i)))], [.ref 15, .int (nI (i))])) (h' := (Gc L xs A B (pa, sl, no, nm) V S d X)) (fun _ _ => rfl) ?_
    refine eR.call (k' := 35) (as := [.ref 15]) (rest := [.int (nI (i))]) (v := some (.int (nI (A.2)))) (h1 := (Gc L xs A B (pa, sl, no, nm) V S d X)) rfl rfl rfl rfl (eg (Nat.le_of_ble_eq_true rfl) (show 20 ≤ lo by omega) (Nat.le_of_ble_eq_true rfl)) (c_len_15) ?_
    refine eR.icmp rfl true ((nc_ge (by omega) (by omega)).trans (decide_eq_true (by omega))) ?_
    exact eR.ret rfl rfl rfl
  | n + 1, i, pa, sl, no, nm, hq, hno, hnm => by
    unfold fw1
    refine eR.step 2 (F' := (21, [(0, .ref 9), (1, .ref 15), (2, .ref 19), (3, .int (nI (i)))], [.ref 15, .int (nI (i))])) (h' := (Gc L xs A B (pa, sl, no, nm) V S d X)) (fun _ _ => rfl) ?_
    refine eR.call (k' := 35) (as := [.ref 15]) (rest := [.int (nI (i))]) (v := some (.int (nI (A.2)))) (h1 := (Gc L xs A B (pa, sl, no, nm) V S d X)) rfl rfl rfl rfl (eg (Nat.le_of_ble_eq_true rfl) (show 20 ≤ lo by omega) (Nat.le_of_ble_eq_true rfl)) (c_len_15) ?_
    refine eR.icmp rfl false ((nc_ge (by omega) (by omega)).trans (decide_eq_false (by omega))) ?_
    refine eR.step 2 (F' := (29, [(0, .ref 9), (1, .ref 15), (2, .ref 19), (3, .int (nI (i)))], [.int (nI (i)), .ref 15])) (h' := (Gc L xs A B (pa, sl, no, nm) V S d X)) (fun _ _ => rfl) ?_
    refine eR.call (k' := 68) (as := [.ref 15, .int (nI (i))]) (rest := []) (v := some (.int (nI (bi (sN A.1 A.2 i))))) (h1 := (Gc L xs A B (pa, sl, no, nm) V S d X)) rfl rfl rfl rfl (eg (Nat.le_of_ble_eq_true rfl) (show 21 ≤ lo by omega) (Nat.le_of_ble_eq_true rfl)) (c_startsName_15 ht hl (by omega)) ?_
    by_cases hN : sN A.1 A.2 i = true
    · rw [if_pos hN, bj_t hN]
      refine eR.ifc rfl false rfl ?_
      refine eR.step 4 (F' := (41, [(0, .ref 9), (1, .ref 15), (2, .ref 19), (3, .int (nI (i)))], [.ref 20, .int (nI (i)), .ref 15])) (h' := (Gc L xs A B (pa, sl, no, nm) V S d X)) (fun _ _ => rfl) ?_
      refine eR.call (k' := 69) (as := [.ref 15, .int (nI (i)), .ref 20]) (rest := []) (v := none) (h1 := (Gc L xs A B (pa, sl, no, cn A.1 A.2 i nm true 0 7) V S d X)) rfl rfl rfl rfl (eg (Nat.le_of_ble_eq_true rfl) (show 24 ≤ lo by omega) (Nat.le_of_ble_eq_true rfl)) (c_copyName_15 (U := (pa, sl, no, nm)) hs hl (by omega)) ?_
      have hn2 := cn_lt (i := i) hs 7 0 nm true hnm
      refine eR.step 5 (F' := (53, [(0, .ref 9), (1, .ref 15), (2, .ref 19), (3, .int (nI (i)))], [.int (nI (no)), .ref 8, .ref 19])) (h' := (Gc L xs A B (pa, sl, no, cn A.1 A.2 i nm true 0 7) V S d X)) (fun _ _ => rfl) ?_
      refine eR.call (k' := 41) (as := [.ref 8, .int (nI (no))]) (rest := [.ref 19]) (v := some (.int (nI (d (32 + (16 * no)))))) (h1 := (Gc L xs A B (pa, sl, no, cn A.1 A.2 i nm true 0 7) V S d X)) rfl rfl rfl rfl (eg (Nat.le_of_ble_eq_true rfl) (show 21 ≤ lo by omega) (Nat.le_of_ble_eq_true rfl)) (c_kind (show 21 ≤ lo - 21 by omega) hd hno) ?_
      refine eR.step 1 (F' := (57, [(0, .ref 9), (1, .ref 15), (2, .ref 19), (3, .int (nI (i)))], [.int (nI 2), .int (nI (d (32 + (16 * no)))), .ref 19])) (h' := (Gc L xs A B (pa, sl, no, cn A.1 A.2 i nm true 0 7) V S d X)) (fun _ _ => rfl) ?_
      have h6 := hd.1 (32 + (16 * no))
      by_cases h2 : d (32 + (16 * no)) = 2
      · refine eR.icmp rfl false ((nc_ne (by omega) (by decide)).trans (decide_eq_false (by omega))) ?_
        refine eR.step 3 (F' := (68, [(0, .ref 9), (1, .ref 15), (2, .ref 19), (3, .int (nI (i)))], [.int (nI (no)), .ref 19])) (h' := (Gc L xs A B (pa, sl, no, cn A.1 A.2 i nm true 0 7) V S d X)) (fun _ _ => rfl) ?_
        refine eR.sim rfl (F := (71, [(0, .ref 9), (1, .ref 15), (2, .ref 19), (3, .int (nI (i)))], [])) (h' := (Gc L xs A B (no, sl, no, cn A.1 A.2 i nm true 0 7) V S d X)) (by rfl) ?_
        refine eR.step 3 (F' := (76, [(0, .ref 9), (1, .ref 15), (2, .ref 19), (3, .int (nI (i)))], [.int (nI (no)), .ref 19])) (h' := (Gc L xs A B (no, sl, no, cn A.1 A.2 i nm true 0 7) V S d X)) (fun _ _ => rfl) ?_
        by_cases h3 : no = 0
        · rw [show st1 d A.1 A.2 i no nm = (0, 0, 0, cn A.1 A.2 i nm true 0 7) from by unfold st1; rw [if_pos h2, if_pos h3]]
          refine eR.ifc rfl false ((nc_ne (b := 0) (by omega) (by decide)).trans (decide_eq_false (by omega))) ?_
          refine eR.step 2 (F' := (95, [(0, .ref 9), (1, .ref 15), (2, .ref 19), (3, .int (nI (i)))], [.int (nI 0), .ref 19])) (h' := (Gc L xs A B (no, sl, no, cn A.1 A.2 i nm true 0 7) V S d X)) (fun _ _ => rfl) ?_
          refine eR.sim rfl (F := (98, [(0, .ref 9), (1, .ref 15), (2, .ref 19), (3, .int (nI (i)))], [])) (h' := (Gc L xs A B (no, 0, no, cn A.1 A.2 i nm true 0 7) V S d X)) (by rfl) ?_
          refine eR.step 3 (F' := (103, [(0, .ref 9), (1, .ref 15), (2, .ref 19), (3, .int (nI (i)))], [.int (nI 0), .ref 19])) (h' := (Gc L xs A B (no, 0, no, cn A.1 A.2 i nm true 0 7) V S d X)) (fun _ _ => rfl) ?_
          refine eR.ifc rfl false rfl ?_
          refine eR.step 2 (F' := (122, [(0, .ref 9), (1, .ref 15), (2, .ref 19), (3, .int (nI (i)))], [.int (nI 0), .ref 19])) (h' := (Gc L xs A B (no, 0, no, cn A.1 A.2 i nm true 0 7) V S d X)) (fun _ _ => rfl) ?_
          refine eR.sim rfl (F := (125, [(0, .ref 9), (1, .ref 15), (2, .ref 19), (3, .int (nI (i)))], [])) (h' := (Gc L xs A B (no, 0, 0, cn A.1 A.2 i nm true 0 7) V S d X)) (by rfl) ?_
          refine eR.step 1 (F' := (128, [(0, .ref 9), (1, .ref 15), (2, .ref 19), (3, .int (nI (i) + 1))], [])) (h' := (Gc L xs A B (no, 0, 0, cn A.1 A.2 i nm true 0 7) V S d X)) (fun _ _ => rfl) ?_
          rw [show nI (i) + 1 = nI (i + 1) from nI_add (i) 1]
          refine eR.step 1 (F' := (19, [(0, .ref 9), (1, .ref 15), (2, .ref 19), (3, .int (nI (i + 1)))], [])) (h' := (Gc L xs A B (no, 0, 0, cn A.1 A.2 i nm true 0 7) V S d X)) (fun _ _ => rfl) ?_
          rw [h3]
          exact l_follow_15 hlo hd ht hs hl n (i + 1) 0 0 0 _ (by omega) (by decide) hn2
        · refine eR.ifc rfl true ((nc_ne (b := 0) (by omega) (by decide)).trans (decide_eq_true (by omega))) ?_
          refine eR.step 5 (F' := (92, [(0, .ref 9), (1, .ref 15), (2, .ref 19), (3, .int (nI (i)))], [.ref 20, .int (nI (no)), .ref 9, .ref 19])) (h' := (Gc L xs A B (no, sl, no, cn A.1 A.2 i nm true 0 7) V S d X)) (fun _ _ => rfl) ?_
          refine eR.call (k' := 70) (as := [.ref 9, .int (nI (no)), .ref 20]) (rest := [.ref 19]) (v := some (.int (nI (fd d no (cn A.1 A.2 i nm true 0 7) 2 (sn d no - 2))))) (h1 := (Gc L xs A B (no, sl, no, cn A.1 A.2 i nm true 0 7) V S d X)) rfl rfl rfl rfl (eg (Nat.le_of_ble_eq_true rfl) (show 25 ≤ lo by omega) (Nat.le_of_ble_eq_true rfl)) (c_find_20 (U := (no, sl, no, cn A.1 A.2 i nm true 0 7)) (show 64 ≤ lo - 25 by omega) hd hn2 hno) ?_
          refine eR.sim rfl (F := (98, [(0, .ref 9), (1, .ref 15), (2, .ref 19), (3, .int (nI (i)))], [])) (h' := (Gc L xs A B (no, fd d no (cn A.1 A.2 i nm true 0 7) 2 (sn d no - 2), no, cn A.1 A.2 i nm true 0 7) V S d X)) (by rfl) ?_
          refine eR.step 3 (F' := (103, [(0, .ref 9), (1, .ref 15), (2, .ref 19), (3, .int (nI (i)))], [.int (nI (fd d no (cn A.1 A.2 i nm true 0 7) 2 (sn d no - 2))), .ref 19])) (h' := (Gc L xs A B (no, fd d no (cn A.1 A.2 i nm true 0 7) 2 (sn d no - 2), no, cn A.1 A.2 i nm true 0 7) V S d X)) (fun _ _ => rfl) ?_
          have h7 : fd d no (cn A.1 A.2 i nm true 0 7) 2 (sn d no - 2) < 26 := fd_lt d no _ 26 (by decide) _ 2 (by have := sn_le d no; omega)
          by_cases h4 : fd d no (cn A.1 A.2 i nm true 0 7) 2 (sn d no - 2) = 0
          · rw [show st1 d A.1 A.2 i no nm = (no, 0, 0, cn A.1 A.2 i nm true 0 7) from by unfold st1; rw [if_pos h2, if_neg h3, if_pos h4]]
            refine eR.ifc rfl false ((nc_ne (b := 0) (by omega) (by decide)).trans (decide_eq_false (by omega))) ?_
            refine eR.step 2 (F' := (122, [(0, .ref 9), (1, .ref 15), (2, .ref 19), (3, .int (nI (i)))], [.int (nI 0), .ref 19])) (h' := (Gc L xs A B (no, fd d no (cn A.1 A.2 i nm true 0 7) 2 (sn d no - 2), no, cn A.1 A.2 i nm true 0 7) V S d X)) (fun _ _ => rfl) ?_
            refine eR.sim rfl (F := (125, [(0, .ref 9), (1, .ref 15), (2, .ref 19), (3, .int (nI (i)))], [])) (h' := (Gc L xs A B (no, fd d no (cn A.1 A.2 i nm true 0 7) 2 (sn d no - 2), 0, cn A.1 A.2 i nm true 0 7) V S d X)) (by rfl) ?_
            refine eR.step 1 (F' := (128, [(0, .ref 9), (1, .ref 15), (2, .ref 19), (3, .int (nI (i) + 1))], [])) (h' := (Gc L xs A B (no, fd d no (cn A.1 A.2 i nm true 0 7) 2 (sn d no - 2), 0, cn A.1 A.2 i nm true 0 7) V S d X)) (fun _ _ => rfl) ?_
            rw [show nI (i) + 1 = nI (i + 1) from nI_add (i) 1]
            refine eR.step 1 (F' := (19, [(0, .ref 9), (1, .ref 15), (2, .ref 19), (3, .int (nI (i + 1)))], [])) (h' := (Gc L xs A B (no, fd d no (cn A.1 A.2 i nm true 0 7) 2 (sn d no - 2), 0, cn A.1 A.2 i nm true 0 7) V S d X)) (fun _ _ => rfl) ?_
            rw [h4]
            exact l_follow_15 hlo hd ht hs hl n (i + 1) no 0 0 _ (by omega) (by decide) hn2
          · rw [show st1 d A.1 A.2 i no nm = (no, fd d no (cn A.1 A.2 i nm true 0 7) 2 (sn d no - 2), si d no (fd d no (cn A.1 A.2 i nm true 0 7) 2 (sn d no - 2)), cn A.1 A.2 i nm true 0 7) from by unfold st1; rw [if_pos h2, if_neg h3, if_neg h4]]
            refine eR.ifc rfl true ((nc_ne (b := 0) (by omega) (by decide)).trans (decide_eq_true (by omega))) ?_
            refine eR.step 5 (F' := (119, [(0, .ref 9), (1, .ref 15), (2, .ref 19), (3, .int (nI (i)))], [.int (nI (fd d no (cn A.1 A.2 i nm true 0 7) 2 (sn d no - 2))), .int (nI (no)), .ref 9, .ref 19])) (h' := (Gc L xs A B (no, fd d no (cn A.1 A.2 i nm true 0 7) 2 (sn d no - 2), no, cn A.1 A.2 i nm true 0 7) V S d X)) (fun _ _ => rfl) ?_
            refine eR.call (k' := 52) (as := [.ref 9, .int (nI (no)), .int (nI (fd d no (cn A.1 A.2 i nm true 0 7) 2 (sn d no - 2)))]) (rest := [.ref 19]) (v := some (.int (nI (si d no (fd d no (cn A.1 A.2 i nm true 0 7) 2 (sn d no - 2)))))) (h1 := (Gc L xs A B (no, fd d no (cn A.1 A.2 i nm true 0 7) 2 (sn d no - 2), no, cn A.1 A.2 i nm true 0 7) V S d X)) rfl rfl rfl rfl (eg (Nat.le_of_ble_eq_true rfl) (show 22 ≤ lo by omega) (Nat.le_of_ble_eq_true rfl)) (c_inodeIn (show 44 ≤ lo - 22 by omega) hd hno (by omega)) ?_
            refine eR.sim rfl (F := (125, [(0, .ref 9), (1, .ref 15), (2, .ref 19), (3, .int (nI (i)))], [])) (h' := (Gc L xs A B (no, fd d no (cn A.1 A.2 i nm true 0 7) 2 (sn d no - 2), si d no (fd d no (cn A.1 A.2 i nm true 0 7) 2 (sn d no - 2)), cn A.1 A.2 i nm true 0 7) V S d X)) (by rfl) ?_
            refine eR.step 1 (F' := (128, [(0, .ref 9), (1, .ref 15), (2, .ref 19), (3, .int (nI (i) + 1))], [])) (h' := (Gc L xs A B (no, fd d no (cn A.1 A.2 i nm true 0 7) 2 (sn d no - 2), si d no (fd d no (cn A.1 A.2 i nm true 0 7) 2 (sn d no - 2)), cn A.1 A.2 i nm true 0 7) V S d X)) (fun _ _ => rfl) ?_
            rw [show nI (i) + 1 = nI (i + 1) from nI_add (i) 1]
            refine eR.step 1 (F' := (19, [(0, .ref 9), (1, .ref 15), (2, .ref 19), (3, .int (nI (i + 1)))], [])) (h' := (Gc L xs A B (no, fd d no (cn A.1 A.2 i nm true 0 7) 2 (sn d no - 2), si d no (fd d no (cn A.1 A.2 i nm true 0 7) 2 (sn d no - 2)), cn A.1 A.2 i nm true 0 7) V S d X)) (fun _ _ => rfl) ?_
            exact l_follow_15 hlo hd ht hs hl n (i + 1) no _ _ _ (by omega) (Nat.lt_trans (hd.1 _) (by decide)) hn2
      · rw [show st1 d A.1 A.2 i no nm = (0, 0, 0, cn A.1 A.2 i nm true 0 7) from by unfold st1; rw [if_neg h2]]
        refine eR.icmp rfl true ((nc_ne (by omega) (by decide)).trans (decide_eq_true (by omega))) ?_
        refine eR.step 1 (F' := (68, [(0, .ref 9), (1, .ref 15), (2, .ref 19), (3, .int (nI (i)))], [.int (nI 0), .ref 19])) (h' := (Gc L xs A B (pa, sl, no, cn A.1 A.2 i nm true 0 7) V S d X)) (fun _ _ => rfl) ?_
        refine eR.sim rfl (F := (71, [(0, .ref 9), (1, .ref 15), (2, .ref 19), (3, .int (nI (i)))], [])) (h' := (Gc L xs A B (0, sl, no, cn A.1 A.2 i nm true 0 7) V S d X)) (by rfl) ?_
        refine eR.step 3 (F' := (76, [(0, .ref 9), (1, .ref 15), (2, .ref 19), (3, .int (nI (i)))], [.int (nI 0), .ref 19])) (h' := (Gc L xs A B (0, sl, no, cn A.1 A.2 i nm true 0 7) V S d X)) (fun _ _ => rfl) ?_
        refine eR.ifc rfl false rfl ?_
        refine eR.step 2 (F' := (95, [(0, .ref 9), (1, .ref 15), (2, .ref 19), (3, .int (nI (i)))], [.int (nI 0), .ref 19])) (h' := (Gc L xs A B (0, sl, no, cn A.1 A.2 i nm true 0 7) V S d X)) (fun _ _ => rfl) ?_
        refine eR.sim rfl (F := (98, [(0, .ref 9), (1, .ref 15), (2, .ref 19), (3, .int (nI (i)))], [])) (h' := (Gc L xs A B (0, 0, no, cn A.1 A.2 i nm true 0 7) V S d X)) (by rfl) ?_
        refine eR.step 3 (F' := (103, [(0, .ref 9), (1, .ref 15), (2, .ref 19), (3, .int (nI (i)))], [.int (nI 0), .ref 19])) (h' := (Gc L xs A B (0, 0, no, cn A.1 A.2 i nm true 0 7) V S d X)) (fun _ _ => rfl) ?_
        refine eR.ifc rfl false rfl ?_
        refine eR.step 2 (F' := (122, [(0, .ref 9), (1, .ref 15), (2, .ref 19), (3, .int (nI (i)))], [.int (nI 0), .ref 19])) (h' := (Gc L xs A B (0, 0, no, cn A.1 A.2 i nm true 0 7) V S d X)) (fun _ _ => rfl) ?_
        refine eR.sim rfl (F := (125, [(0, .ref 9), (1, .ref 15), (2, .ref 19), (3, .int (nI (i)))], [])) (h' := (Gc L xs A B (0, 0, 0, cn A.1 A.2 i nm true 0 7) V S d X)) (by rfl) ?_
        refine eR.step 1 (F' := (128, [(0, .ref 9), (1, .ref 15), (2, .ref 19), (3, .int (nI (i) + 1))], [])) (h' := (Gc L xs A B (0, 0, 0, cn A.1 A.2 i nm true 0 7) V S d X)) (fun _ _ => rfl) ?_
        rw [show nI (i) + 1 = nI (i + 1) from nI_add (i) 1]
        refine eR.step 1 (F' := (19, [(0, .ref 9), (1, .ref 15), (2, .ref 19), (3, .int (nI (i + 1)))], [])) (h' := (Gc L xs A B (0, 0, 0, cn A.1 A.2 i nm true 0 7) V S d X)) (fun _ _ => rfl) ?_
        exact l_follow_15 hlo hd ht hs hl n (i + 1) 0 0 0 _ (by omega) (by decide) hn2
    · rw [if_neg hN, bj_f hN]
      refine eR.ifc rfl true rfl ?_
      refine eR.step 1 (F' := (128, [(0, .ref 9), (1, .ref 15), (2, .ref 19), (3, .int (nI (i) + 1))], [])) (h' := (Gc L xs A B (pa, sl, no, nm) V S d X)) (fun _ _ => rfl) ?_
      rw [show nI (i) + 1 = nI (i + 1) from nI_add (i) 1]
      refine eR.step 1 (F' := (19, [(0, .ref 9), (1, .ref 15), (2, .ref 19), (3, .int (nI (i + 1)))], [])) (h' := (Gc L xs A B (pa, sl, no, nm) V S d X)) (fun _ _ => rfl) ?_
      exact l_follow_15 hlo hd ht hs hl n (i + 1) pa sl no nm (by omega) hno hnm
theorem c_follow_15 {cm sm fr lo L : Nat} {xs : Nat → Int32} {A B : gT} {U V : gU} {S : gS} {d : Nat → Nat} {X : mj_H} (hlo : 89 ≤ lo) (hd : dk d) (ht : ∀ k, A.1 k < 65536) (hl : A.2 ≤ 40) (hn : ∀ k, U.2.2.2 k < 128) : eE mm_P cm sm (fr + 5) lo 65 [.ref 9, .ref 15, .ref 19] (Gc L xs A B U V S d X) (.inl (none), (Gc L xs A B (fw d A.1 A.2 U) V S d X)) := by
  refine eE.of ?_
  refine eR.step 1 (F' := (1, [(0, .ref 9), (1, .ref 15), (2, .ref 19)], [.ref 19])) (h' := (Gc L xs A B U V S d X)) (fun _ _ => rfl) ?_
  refine eR.call (k' := 66) (as := [.ref 19]) (rest := []) (v := none) (h1 := (Gc L xs A B (0, 0, 0, U.2.2.2) V S d X)) rfl rfl rfl rfl (eg (Nat.le_of_ble_eq_true rfl) (show 20 ≤ lo by omega) (Nat.le_of_ble_eq_true rfl)) (c_clearP_19) ?_
  refine eR.step 1 (F' := (5, [(0, .ref 9), (1, .ref 15), (2, .ref 19)], [.ref 15])) (h' := (Gc L xs A B (0, 0, 0, U.2.2.2) V S d X)) (fun _ _ => rfl) ?_
  refine eR.call (k' := 67) (as := [.ref 15]) (rest := []) (v := some (.int (nI (bi (isP A.1 A.2))))) (h1 := (Gc L xs A B (0, 0, 0, U.2.2.2) V S d X)) rfl rfl rfl rfl (eg (Nat.le_of_ble_eq_true rfl) (show 22 ≤ lo by omega) (Nat.le_of_ble_eq_true rfl)) (c_isPath_15 ht hl) ?_
  unfold fw
  by_cases hP : isP A.1 A.2 = true
  · rw [if_pos hP, bj_t hP]
    have h9 := isP_pos hP
    refine eR.ifc rfl true rfl ?_
    refine eR.step 2 (F' := (14, [(0, .ref 9), (1, .ref 15), (2, .ref 19)], [.int (nI 1), .ref 19])) (h' := (Gc L xs A B (0, 0, 0, U.2.2.2) V S d X)) (fun _ _ => rfl) ?_
    refine eR.sim rfl (F := (17, [(0, .ref 9), (1, .ref 15), (2, .ref 19)], [])) (h' := (Gc L xs A B (0, 0, 1, U.2.2.2) V S d X)) (by rfl) ?_
    refine eR.step 2 (F' := (19, [(0, .ref 9), (1, .ref 15), (2, .ref 19), (3, .int (nI 1))], [])) (h' := (Gc L xs A B (0, 0, 1, U.2.2.2) V S d X)) (fun _ _ => rfl) ?_
    exact l_follow_15 hlo hd ht (isP_lt hP) hl (A.2 - 1) 1 0 0 1 _ (by omega) (by decide) hn
  · rw [if_neg hP, bj_f hP]
    refine eR.ifc rfl false rfl ?_
    exact eR.ret rfl rfl rfl
theorem l_copyName_17 {cm sm fr lo L : Nat} {xs : Nat → Int32} {A B : gT} {U V : gU} {S : gS} {d : Nat → Nat} {X : mj_H} (hs : ∀ k, k < B.2 → B.1 k < 128) (hl : B.2 ≤ 40) {i : Nat} (hi : i < 2 ^ 20) : ∀ (n k : Nat) (b : Bool) (nm : Nat → Nat), k + n = 7 → eR mm_P cm sm fr lo 69 (13, [(0, .ref 17), (1, .int (nI (i))), (2, .ref 22), (3, .int (nI (bi b))), (4, .int (nI (k)))], []) (Gc L xs A B U (V.1, V.2.1, V.2.2.1, nm) S d X) (.inl none, (Gc L xs A B U (V.1, V.2.1, V.2.2.1, cn B.1 B.2 i nm b k n) S d X))
  | 0, k, b, nm, hq => by
    refine eR.step 3 (F' := (17, [(0, .ref 17), (1, .int (nI (i))), (2, .ref 22), (3, .int (nI (bi b))), (4, .int (nI (k)))], [.int (nI 7), .int (nI (k))])) (h' := (Gc L xs A B U (V.1, V.2.1, V.2.2.1, nm) S d X)) (fun _ _ => rfl) ?_
    refine eR.icmp rfl true ((nc_ge (by omega) (by decide)).trans (decide_eq_true (by omega))) ?_
    exact eR.ret rfl rfl rfl
  | n + 1, k, b, nm, hq => by
    unfold cn
    cases b
    · rw [if_neg (fun z => Bool.noConfusion z.1)]
      refine eR.step 3 (F' := (17, [(0, .ref 17), (1, .int (nI (i))), (2, .ref 22), (3, .int (nI (bi false))), (4, .int (nI (k)))], [.int (nI 7), .int (nI (k))])) (h' := (Gc L xs A B U (V.1, V.2.1, V.2.2.1, nm) S d X)) (fun _ _ => rfl) ?_
      refine eR.icmp rfl false ((nc_ge (by omega) (by decide)).trans (decide_eq_false (by omega))) ?_
      refine eR.step 1 (F' := (21, [(0, .ref 17), (1, .int (nI (i))), (2, .ref 22), (3, .int (nI (bi false))), (4, .int (nI (k)))], [.int (nI (bi false))])) (h' := (Gc L xs A B U (V.1, V.2.1, V.2.2.1, nm) S d X)) (fun _ _ => rfl) ?_
      refine eR.ifc rfl true rfl ?_
      refine eR.step 5 (F' := (59, [(0, .ref 17), (1, .int (nI (i))), (2, .ref 22), (3, .int (nI 0)), (4, .int (nI (k)))], [.int (nI 0), .int (nI (k)), .ref 22])) (h' := (Gc L xs A B U (V.1, V.2.1, V.2.2.1, nm) S d X)) (fun _ _ => rfl) ?_
      refine eR.ifc rfl true rfl ?_
      refine eR.step 1 (F' := (76, [(0, .ref 17), (1, .int (nI (i))), (2, .ref 22), (3, .int (nI 0)), (4, .int (nI (k)))], [.int (nI 0), .int (nI (k)), .ref 22])) (h' := (Gc L xs A B U (V.1, V.2.1, V.2.2.1, nm) S d X)) (fun _ _ => rfl) ?_
      refine eR.sim rfl (F := (77, [(0, .ref 17), (1, .int (nI (i))), (2, .ref 22), (3, .int (nI 0)), (4, .int (nI (k)))], [])) (h' := (Gc L xs A B U (V.1, V.2.1, V.2.2.1, ut nm k 0) S d X)) (by simp [mj_sim, mj_ar, mj_pi, mj_nw, Gc, na_ix (show k < 7 by omega) (by decide)]; exact un_eq nm k 0) ?_
      refine eR.step 1 (F' := (80, [(0, .ref 17), (1, .int (nI (i))), (2, .ref 22), (3, .int (nI 0)), (4, .int (nI (k) + 1))], [])) (h' := (Gc L xs A B U (V.1, V.2.1, V.2.2.1, ut nm k 0) S d X)) (fun _ _ => rfl) ?_
      rw [show nI (k) + 1 = nI (k + 1) from nI_add (k) 1]
      refine eR.step 1 (F' := (13, [(0, .ref 17), (1, .int (nI (i))), (2, .ref 22), (3, .int (nI 0)), (4, .int (nI (k + 1)))], [])) (h' := (Gc L xs A B U (V.1, V.2.1, V.2.2.1, ut nm k 0) S d X)) (fun _ _ => rfl) ?_
      exact l_copyName_17 hs hl hi n (k + 1) false _ (by omega)
    · refine eR.step 3 (F' := (17, [(0, .ref 17), (1, .int (nI (i))), (2, .ref 22), (3, .int (nI (bi true))), (4, .int (nI (k)))], [.int (nI 7), .int (nI (k))])) (h' := (Gc L xs A B U (V.1, V.2.1, V.2.2.1, nm) S d X)) (fun _ _ => rfl) ?_
      refine eR.icmp rfl false ((nc_ge (by omega) (by decide)).trans (decide_eq_false (by omega))) ?_
      refine eR.step 1 (F' := (21, [(0, .ref 17), (1, .int (nI (i))), (2, .ref 22), (3, .int (nI (bi true))), (4, .int (nI (k)))], [.int (nI (bi true))])) (h' := (Gc L xs A B U (V.1, V.2.1, V.2.2.1, nm) S d X)) (fun _ _ => rfl) ?_
      refine eR.ifc rfl false rfl ?_
      refine eR.step 2 (F' := (27, [(0, .ref 17), (1, .int (nI (i))), (2, .ref 22), (3, .int (nI (bi true))), (4, .int (nI (k)))], [.int (nI (k)), .int (nI (i))])) (h' := (Gc L xs A B U (V.1, V.2.1, V.2.2.1, nm) S d X)) (fun _ _ => rfl) ?_
      refine eR.nadd rfl ?_
      refine eR.step 2 (F' := (32, [(0, .ref 17), (1, .int (nI (i))), (2, .ref 22), (3, .int (nI (bi true))), (4, .int (nI (k)))], [.int (nI (B.2)), .int (nI (i + k))])) (h' := (Gc L xs A B U (V.1, V.2.1, V.2.2.1, nm) S d X)) (fun _ _ => rfl) ?_
      by_cases h0 : i + k < B.2
      · have h6 := hs _ h0
        refine eR.icmp rfl false ((nc_ge (by omega) (by omega)).trans (decide_eq_false (by omega))) ?_
        refine eR.step 4 (F' := (42, [(0, .ref 17), (1, .int (nI (i))), (2, .ref 22), (3, .int (nI (bi true))), (4, .int (nI (k)))], [.int (nI (k)), .int (nI (i)), .ref 18])) (h' := (Gc L xs A B U (V.1, V.2.1, V.2.2.1, nm) S d X)) (fun _ _ => rfl) ?_
        refine eR.nadd rfl ?_
        refine eR.sim rfl (F := (44, [(0, .ref 17), (1, .int (nI (i))), (2, .ref 22), (3, .int (nI (bi true))), (4, .int (nI (k)))], [.int (nI (B.1 (i + k)))])) (h' := (Gc L xs A B U (V.1, V.2.1, V.2.2.1, nm) S d X)) (by simp [mj_sim, mj_ar, mj_gi, Gc, na_ix (show i + k < 40 by omega) (by decide)]) ?_
        refine eR.step 1 (F' := (46, [(0, .ref 17), (1, .int (nI (i))), (2, .ref 22), (3, .int (nI (bi true))), (4, .int (nI (k)))], [.int (nI 47), .int (nI (B.1 (i + k)))])) (h' := (Gc L xs A B U (V.1, V.2.1, V.2.2.1, nm) S d X)) (fun _ _ => rfl) ?_
        by_cases h1 : B.1 (i + k) = 47
        · rw [if_neg (fun z => z.2.2 h1)]
          refine eR.icmp rfl true ((nc_eq (by omega) (by decide)).trans (decide_eq_true (by omega))) ?_
          refine eR.step 5 (F' := (59, [(0, .ref 17), (1, .int (nI (i))), (2, .ref 22), (3, .int (nI 0)), (4, .int (nI (k)))], [.int (nI 0), .int (nI (k)), .ref 22])) (h' := (Gc L xs A B U (V.1, V.2.1, V.2.2.1, nm) S d X)) (fun _ _ => rfl) ?_
          refine eR.ifc rfl true rfl ?_
          refine eR.step 1 (F' := (76, [(0, .ref 17), (1, .int (nI (i))), (2, .ref 22), (3, .int (nI 0)), (4, .int (nI (k)))], [.int (nI 0), .int (nI (k)), .ref 22])) (h' := (Gc L xs A B U (V.1, V.2.1, V.2.2.1, nm) S d X)) (fun _ _ => rfl) ?_
          refine eR.sim rfl (F := (77, [(0, .ref 17), (1, .int (nI (i))), (2, .ref 22), (3, .int (nI 0)), (4, .int (nI (k)))], [])) (h' := (Gc L xs A B U (V.1, V.2.1, V.2.2.1, ut nm k 0) S d X)) (by simp [mj_sim, mj_ar, mj_pi, mj_nw, Gc, na_ix (show k < 7 by omega) (by decide)]; exact un_eq nm k 0) ?_
          refine eR.step 1 (F' := (80, [(0, .ref 17), (1, .int (nI (i))), (2, .ref 22), (3, .int (nI 0)), (4, .int (nI (k) + 1))], [])) (h' := (Gc L xs A B U (V.1, V.2.1, V.2.2.1, ut nm k 0) S d X)) (fun _ _ => rfl) ?_
          rw [show nI (k) + 1 = nI (k + 1) from nI_add (k) 1]
          refine eR.step 1 (F' := (13, [(0, .ref 17), (1, .int (nI (i))), (2, .ref 22), (3, .int (nI 0)), (4, .int (nI (k + 1)))], [])) (h' := (Gc L xs A B U (V.1, V.2.1, V.2.2.1, ut nm k 0) S d X)) (fun _ _ => rfl) ?_
          exact l_copyName_17 hs hl hi n (k + 1) false _ (by omega)
        · rw [if_pos ⟨rfl, h0, h1⟩]
          refine eR.icmp rfl false ((nc_eq (by omega) (by decide)).trans (decide_eq_false (by omega))) ?_
          refine eR.step 6 (F' := (59, [(0, .ref 17), (1, .int (nI (i))), (2, .ref 22), (3, .int (nI 1)), (4, .int (nI (k)))], [.int (nI 1), .int (nI (k)), .ref 22])) (h' := (Gc L xs A B U (V.1, V.2.1, V.2.2.1, nm) S d X)) (fun _ _ => rfl) ?_
          refine eR.ifc rfl false rfl ?_
          refine eR.step 4 (F' := (69, [(0, .ref 17), (1, .int (nI (i))), (2, .ref 22), (3, .int (nI 1)), (4, .int (nI (k)))], [.int (nI (k)), .int (nI (i)), .ref 18, .int (nI (k)), .ref 22])) (h' := (Gc L xs A B U (V.1, V.2.1, V.2.2.1, nm) S d X)) (fun _ _ => rfl) ?_
          refine eR.nadd rfl ?_
          refine eR.sim rfl (F := (71, [(0, .ref 17), (1, .int (nI (i))), (2, .ref 22), (3, .int (nI 1)), (4, .int (nI (k)))], [.int (nI (B.1 (i + k))), .int (nI (k)), .ref 22])) (h' := (Gc L xs A B U (V.1, V.2.1, V.2.2.1, nm) S d X)) (by simp [mj_sim, mj_ar, mj_gi, Gc, na_ix (show i + k < 40 by omega) (by decide)]) ?_
          refine eR.sim rfl (F := (72, [(0, .ref 17), (1, .int (nI (i))), (2, .ref 22), (3, .int (nI 1)), (4, .int (nI (k)))], [.int ((nI (B.1 (i + k))).toInt8.toInt32), .int (nI (k)), .ref 22])) (h' := (Gc L xs A B U (V.1, V.2.1, V.2.2.1, nm) S d X)) (by rfl) ?_
          refine eR.step 1 (F' := (76, [(0, .ref 17), (1, .int (nI (i))), (2, .ref 22), (3, .int (nI 1)), (4, .int (nI (k)))], [.int ((nI (B.1 (i + k))).toInt8.toInt32), .int (nI (k)), .ref 22])) (h' := (Gc L xs A B U (V.1, V.2.1, V.2.2.1, nm) S d X)) (fun _ _ => rfl) ?_
          refine eR.sim rfl (F := (77, [(0, .ref 17), (1, .int (nI (i))), (2, .ref 22), (3, .int (nI 1)), (4, .int (nI (k)))], [])) (h' := (Gc L xs A B U (V.1, V.2.1, V.2.2.1, ut nm k (B.1 (i + k))) S d X)) (by simp [mj_sim, mj_ar, mj_pi, mj_nw, Gc, na_ix (show k < 7 by omega) (by decide)]; exact un_eq nm k (B.1 (i + k))) ?_
          refine eR.step 1 (F' := (80, [(0, .ref 17), (1, .int (nI (i))), (2, .ref 22), (3, .int (nI 1)), (4, .int (nI (k) + 1))], [])) (h' := (Gc L xs A B U (V.1, V.2.1, V.2.2.1, ut nm k (B.1 (i + k))) S d X)) (fun _ _ => rfl) ?_
          rw [show nI (k) + 1 = nI (k + 1) from nI_add (k) 1]
          refine eR.step 1 (F' := (13, [(0, .ref 17), (1, .int (nI (i))), (2, .ref 22), (3, .int (nI 1)), (4, .int (nI (k + 1)))], [])) (h' := (Gc L xs A B U (V.1, V.2.1, V.2.2.1, ut nm k (B.1 (i + k))) S d X)) (fun _ _ => rfl) ?_
          exact l_copyName_17 hs hl hi n (k + 1) true _ (by omega)
      · rw [if_neg (fun z => h0 z.2.1)]
        refine eR.icmp rfl true ((nc_ge (by omega) (by omega)).trans (decide_eq_true (by omega))) ?_
        refine eR.step 5 (F' := (59, [(0, .ref 17), (1, .int (nI (i))), (2, .ref 22), (3, .int (nI 0)), (4, .int (nI (k)))], [.int (nI 0), .int (nI (k)), .ref 22])) (h' := (Gc L xs A B U (V.1, V.2.1, V.2.2.1, nm) S d X)) (fun _ _ => rfl) ?_
        refine eR.ifc rfl true rfl ?_
        refine eR.step 1 (F' := (76, [(0, .ref 17), (1, .int (nI (i))), (2, .ref 22), (3, .int (nI 0)), (4, .int (nI (k)))], [.int (nI 0), .int (nI (k)), .ref 22])) (h' := (Gc L xs A B U (V.1, V.2.1, V.2.2.1, nm) S d X)) (fun _ _ => rfl) ?_
        refine eR.sim rfl (F := (77, [(0, .ref 17), (1, .int (nI (i))), (2, .ref 22), (3, .int (nI 0)), (4, .int (nI (k)))], [])) (h' := (Gc L xs A B U (V.1, V.2.1, V.2.2.1, ut nm k 0) S d X)) (by simp [mj_sim, mj_ar, mj_pi, mj_nw, Gc, na_ix (show k < 7 by omega) (by decide)]; exact un_eq nm k 0) ?_
        refine eR.step 1 (F' := (80, [(0, .ref 17), (1, .int (nI (i))), (2, .ref 22), (3, .int (nI 0)), (4, .int (nI (k) + 1))], [])) (h' := (Gc L xs A B U (V.1, V.2.1, V.2.2.1, ut nm k 0) S d X)) (fun _ _ => rfl) ?_
        rw [show nI (k) + 1 = nI (k + 1) from nI_add (k) 1]
        refine eR.step 1 (F' := (13, [(0, .ref 17), (1, .int (nI (i))), (2, .ref 22), (3, .int (nI 0)), (4, .int (nI (k + 1)))], [])) (h' := (Gc L xs A B U (V.1, V.2.1, V.2.2.1, ut nm k 0) S d X)) (fun _ _ => rfl) ?_
        exact l_copyName_17 hs hl hi n (k + 1) false _ (by omega)
theorem c_copyName_17 {cm sm fr lo L : Nat} {xs : Nat → Int32} {A B : gT} {U V : gU} {S : gS} {d : Nat → Nat} {X : mj_H} (hs : ∀ k, k < B.2 → B.1 k < 128) (hl : B.2 ≤ 40) {i : Nat} (hi : i < 2 ^ 20) : eE mm_P cm sm (fr + 1) lo 69 [.ref 17, .int (nI (i)), .ref 22] (Gc L xs A B U V S d X) (.inl (none), (Gc L xs A B U (V.1, V.2.1, V.2.2.1, cn B.1 B.2 i V.2.2.2 true 0 7) S d X)) := by
  refine eE.of ?_
  refine eR.step 1 (F' := (1, [(0, .ref 17), (1, .int (nI (i))), (2, .ref 22)], [.int (nI (i))])) (h' := (Gc L xs A B U V S d X)) (fun _ _ => rfl) ?_
  refine eR.ifc rfl false ((nc_lt (b := 0) (by omega) (by decide)).trans (decide_eq_false (by omega))) ?_
  refine eR.step 5 (F' := (13, [(0, .ref 17), (1, .int (nI (i))), (2, .ref 22), (3, .int (nI 1)), (4, .int (nI 0))], [])) (h' := (Gc L xs A B U V S d X)) (fun _ _ => rfl) ?_
  exact l_copyName_17 hs hl hi 7 0 true V.2.2.2 (by decide)
theorem l_follow_17 {cm sm fr lo L : Nat} {xs : Nat → Int32} {A B : gT} {U : gU} {S : gS} {d : Nat → Nat} {X : mj_H} (hlo : 89 ≤ lo) (hd : dk d) (ht : ∀ k, B.1 k < 65536) (hs : ∀ k, k < B.2 → B.1 k < 128) (hl : B.2 ≤ 40) : ∀ (n i pa sl no : Nat) (nm : Nat → Nat), i + n = B.2 → no < 2 ^ 20 → (∀ k, nm k < 128) → eR mm_P cm sm (fr + 4) lo 65 (19, [(0, .ref 9), (1, .ref 17), (2, .ref 21), (3, .int (nI (i)))], []) (Gc L xs A B U (pa, sl, no, nm) S d X) (.inl none, (Gc L xs A B U (fw1 d B.1 B.2 (pa, sl, no, nm) i n) S d X))
  | 0, i, pa, sl, no, nm, hq, hno, hnm => by
    refine eR.step 2 (F' := (21, [(0, .ref 9), (1, .ref 17), (2, .ref 21), (3, .int (nI (i)))], [.ref 17, .int (nI (i))])) (h' := (Gc L xs A B U (pa, sl, no, nm) S d X)) (fun _ _ => rfl) ?_
    refine eR.call (k' := 35) (as := [.ref 17]) (rest := [.int (nI (i))]) (v := some (.int (nI (B.2)))) (h1 := (Gc L xs A B U (pa, sl, no, nm) S d X)) rfl rfl rfl rfl (eg (Nat.le_of_ble_eq_true rfl) (show 20 ≤ lo by omega) (Nat.le_of_ble_eq_true rfl)) (c_len_17) ?_
    refine eR.icmp rfl true ((nc_ge (by omega) (by omega)).trans (decide_eq_true (by omega))) ?_
    exact eR.ret rfl rfl rfl
  | n + 1, i, pa, sl, no, nm, hq, hno, hnm => by
    unfold fw1
    refine eR.step 2 (F' := (21, [(0, .ref 9), (1, .ref 17), (2, .ref 21), (3, .int (nI (i)))], [.ref 17, .int (nI (i))])) (h' := (Gc L xs A B U (pa, sl, no, nm) S d X)) (fun _ _ => rfl) ?_
    refine eR.call (k' := 35) (as := [.ref 17]) (rest := [.int (nI (i))]) (v := some (.int (nI (B.2)))) (h1 := (Gc L xs A B U (pa, sl, no, nm) S d X)) rfl rfl rfl rfl (eg (Nat.le_of_ble_eq_true rfl) (show 20 ≤ lo by omega) (Nat.le_of_ble_eq_true rfl)) (c_len_17) ?_
    refine eR.icmp rfl false ((nc_ge (by omega) (by omega)).trans (decide_eq_false (by omega))) ?_
    refine eR.step 2 (F' := (29, [(0, .ref 9), (1, .ref 17), (2, .ref 21), (3, .int (nI (i)))], [.int (nI (i)), .ref 17])) (h' := (Gc L xs A B U (pa, sl, no, nm) S d X)) (fun _ _ => rfl) ?_
    refine eR.call (k' := 68) (as := [.ref 17, .int (nI (i))]) (rest := []) (v := some (.int (nI (bi (sN B.1 B.2 i))))) (h1 := (Gc L xs A B U (pa, sl, no, nm) S d X)) rfl rfl rfl rfl (eg (Nat.le_of_ble_eq_true rfl) (show 21 ≤ lo by omega) (Nat.le_of_ble_eq_true rfl)) (c_startsName_17 ht hl (by omega)) ?_
    by_cases hN : sN B.1 B.2 i = true
    · rw [if_pos hN, bj_t hN]
      refine eR.ifc rfl false rfl ?_
      refine eR.step 4 (F' := (41, [(0, .ref 9), (1, .ref 17), (2, .ref 21), (3, .int (nI (i)))], [.ref 22, .int (nI (i)), .ref 17])) (h' := (Gc L xs A B U (pa, sl, no, nm) S d X)) (fun _ _ => rfl) ?_
      refine eR.call (k' := 69) (as := [.ref 17, .int (nI (i)), .ref 22]) (rest := []) (v := none) (h1 := (Gc L xs A B U (pa, sl, no, cn B.1 B.2 i nm true 0 7) S d X)) rfl rfl rfl rfl (eg (Nat.le_of_ble_eq_true rfl) (show 24 ≤ lo by omega) (Nat.le_of_ble_eq_true rfl)) (c_copyName_17 (V := (pa, sl, no, nm)) hs hl (by omega)) ?_
      have hn2 := cn_lt (i := i) hs 7 0 nm true hnm
      refine eR.step 5 (F' := (53, [(0, .ref 9), (1, .ref 17), (2, .ref 21), (3, .int (nI (i)))], [.int (nI (no)), .ref 8, .ref 21])) (h' := (Gc L xs A B U (pa, sl, no, cn B.1 B.2 i nm true 0 7) S d X)) (fun _ _ => rfl) ?_
      refine eR.call (k' := 41) (as := [.ref 8, .int (nI (no))]) (rest := [.ref 21]) (v := some (.int (nI (d (32 + (16 * no)))))) (h1 := (Gc L xs A B U (pa, sl, no, cn B.1 B.2 i nm true 0 7) S d X)) rfl rfl rfl rfl (eg (Nat.le_of_ble_eq_true rfl) (show 21 ≤ lo by omega) (Nat.le_of_ble_eq_true rfl)) (c_kind (show 21 ≤ lo - 21 by omega) hd hno) ?_
      refine eR.step 1 (F' := (57, [(0, .ref 9), (1, .ref 17), (2, .ref 21), (3, .int (nI (i)))], [.int (nI 2), .int (nI (d (32 + (16 * no)))), .ref 21])) (h' := (Gc L xs A B U (pa, sl, no, cn B.1 B.2 i nm true 0 7) S d X)) (fun _ _ => rfl) ?_
      have h6 := hd.1 (32 + (16 * no))
      by_cases h2 : d (32 + (16 * no)) = 2
      · refine eR.icmp rfl false ((nc_ne (by omega) (by decide)).trans (decide_eq_false (by omega))) ?_
        refine eR.step 3 (F' := (68, [(0, .ref 9), (1, .ref 17), (2, .ref 21), (3, .int (nI (i)))], [.int (nI (no)), .ref 21])) (h' := (Gc L xs A B U (pa, sl, no, cn B.1 B.2 i nm true 0 7) S d X)) (fun _ _ => rfl) ?_
        refine eR.sim rfl (F := (71, [(0, .ref 9), (1, .ref 17), (2, .ref 21), (3, .int (nI (i)))], [])) (h' := (Gc L xs A B U (no, sl, no, cn B.1 B.2 i nm true 0 7) S d X)) (by rfl) ?_
        refine eR.step 3 (F' := (76, [(0, .ref 9), (1, .ref 17), (2, .ref 21), (3, .int (nI (i)))], [.int (nI (no)), .ref 21])) (h' := (Gc L xs A B U (no, sl, no, cn B.1 B.2 i nm true 0 7) S d X)) (fun _ _ => rfl) ?_
        by_cases h3 : no = 0
        · rw [show st1 d B.1 B.2 i no nm = (0, 0, 0, cn B.1 B.2 i nm true 0 7) from by unfold st1; rw [if_pos h2, if_pos h3]]
          refine eR.ifc rfl false ((nc_ne (b := 0) (by omega) (by decide)).trans (decide_eq_false (by omega))) ?_
          refine eR.step 2 (F' := (95, [(0, .ref 9), (1, .ref 17), (2, .ref 21), (3, .int (nI (i)))], [.int (nI 0), .ref 21])) (h' := (Gc L xs A B U (no, sl, no, cn B.1 B.2 i nm true 0 7) S d X)) (fun _ _ => rfl) ?_
          refine eR.sim rfl (F := (98, [(0, .ref 9), (1, .ref 17), (2, .ref 21), (3, .int (nI (i)))], [])) (h' := (Gc L xs A B U (no, 0, no, cn B.1 B.2 i nm true 0 7) S d X)) (by rfl) ?_
          refine eR.step 3 (F' := (103, [(0, .ref 9), (1, .ref 17), (2, .ref 21), (3, .int (nI (i)))], [.int (nI 0), .ref 21])) (h' := (Gc L xs A B U (no, 0, no, cn B.1 B.2 i nm true 0 7) S d X)) (fun _ _ => rfl) ?_
          refine eR.ifc rfl false rfl ?_
          refine eR.step 2 (F' := (122, [(0, .ref 9), (1, .ref 17), (2, .ref 21), (3, .int (nI (i)))], [.int (nI 0), .ref 21])) (h' := (Gc L xs A B U (no, 0, no, cn B.1 B.2 i nm true 0 7) S d X)) (fun _ _ => rfl) ?_
          refine eR.sim rfl (F := (125, [(0, .ref 9), (1, .ref 17), (2, .ref 21), (3, .int (nI (i)))], [])) (h' := (Gc L xs A B U (no, 0, 0, cn B.1 B.2 i nm true 0 7) S d X)) (by rfl) ?_
          refine eR.step 1 (F' := (128, [(0, .ref 9), (1, .ref 17), (2, .ref 21), (3, .int (nI (i) + 1))], [])) (h' := (Gc L xs A B U (no, 0, 0, cn B.1 B.2 i nm true 0 7) S d X)) (fun _ _ => rfl) ?_
          rw [show nI (i) + 1 = nI (i + 1) from nI_add (i) 1]
          refine eR.step 1 (F' := (19, [(0, .ref 9), (1, .ref 17), (2, .ref 21), (3, .int (nI (i + 1)))], [])) (h' := (Gc L xs A B U (no, 0, 0, cn B.1 B.2 i nm true 0 7) S d X)) (fun _ _ => rfl) ?_
          rw [h3]
          exact l_follow_17 hlo hd ht hs hl n (i + 1) 0 0 0 _ (by omega) (by decide) hn2
        · refine eR.ifc rfl true ((nc_ne (b := 0) (by omega) (by decide)).trans (decide_eq_true (by omega))) ?_
          refine eR.step 5 (F' := (92, [(0, .ref 9), (1, .ref 17), (2, .ref 21), (3, .int (nI (i)))], [.ref 22, .int (nI (no)), .ref 9, .ref 21])) (h' := (Gc L xs A B U (no, sl, no, cn B.1 B.2 i nm true 0 7) S d X)) (fun _ _ => rfl) ?_
          refine eR.call (k' := 70) (as := [.ref 9, .int (nI (no)), .ref 22]) (rest := [.ref 21]) (v := some (.int (nI (fd d no (cn B.1 B.2 i nm true 0 7) 2 (sn d no - 2))))) (h1 := (Gc L xs A B U (no, sl, no, cn B.1 B.2 i nm true 0 7) S d X)) rfl rfl rfl rfl (eg (Nat.le_of_ble_eq_true rfl) (show 25 ≤ lo by omega) (Nat.le_of_ble_eq_true rfl)) (c_find_22 (V := (no, sl, no, cn B.1 B.2 i nm true 0 7)) (show 64 ≤ lo - 25 by omega) hd hn2 hno) ?_
          refine eR.sim rfl (F := (98, [(0, .ref 9), (1, .ref 17), (2, .ref 21), (3, .int (nI (i)))], [])) (h' := (Gc L xs A B U (no, fd d no (cn B.1 B.2 i nm true 0 7) 2 (sn d no - 2), no, cn B.1 B.2 i nm true 0 7) S d X)) (by rfl) ?_
          refine eR.step 3 (F' := (103, [(0, .ref 9), (1, .ref 17), (2, .ref 21), (3, .int (nI (i)))], [.int (nI (fd d no (cn B.1 B.2 i nm true 0 7) 2 (sn d no - 2))), .ref 21])) (h' := (Gc L xs A B U (no, fd d no (cn B.1 B.2 i nm true 0 7) 2 (sn d no - 2), no, cn B.1 B.2 i nm true 0 7) S d X)) (fun _ _ => rfl) ?_
          have h7 : fd d no (cn B.1 B.2 i nm true 0 7) 2 (sn d no - 2) < 26 := fd_lt d no _ 26 (by decide) _ 2 (by have := sn_le d no; omega)
          by_cases h4 : fd d no (cn B.1 B.2 i nm true 0 7) 2 (sn d no - 2) = 0
          · rw [show st1 d B.1 B.2 i no nm = (no, 0, 0, cn B.1 B.2 i nm true 0 7) from by unfold st1; rw [if_pos h2, if_neg h3, if_pos h4]]
            refine eR.ifc rfl false ((nc_ne (b := 0) (by omega) (by decide)).trans (decide_eq_false (by omega))) ?_
            refine eR.step 2 (F' := (122, [(0, .ref 9), (1, .ref 17), (2, .ref 21), (3, .int (nI (i)))], [.int (nI 0), .ref 21])) (h' := (Gc L xs A B U (no, fd d no (cn B.1 B.2 i nm true 0 7) 2 (sn d no - 2), no, cn B.1 B.2 i nm true 0 7) S d X)) (fun _ _ => rfl) ?_
            refine eR.sim rfl (F := (125, [(0, .ref 9), (1, .ref 17), (2, .ref 21), (3, .int (nI (i)))], [])) (h' := (Gc L xs A B U (no, fd d no (cn B.1 B.2 i nm true 0 7) 2 (sn d no - 2), 0, cn B.1 B.2 i nm true 0 7) S d X)) (by rfl) ?_
            refine eR.step 1 (F' := (128, [(0, .ref 9), (1, .ref 17), (2, .ref 21), (3, .int (nI (i) + 1))], [])) (h' := (Gc L xs A B U (no, fd d no (cn B.1 B.2 i nm true 0 7) 2 (sn d no - 2), 0, cn B.1 B.2 i nm true 0 7) S d X)) (fun _ _ => rfl) ?_
            rw [show nI (i) + 1 = nI (i + 1) from nI_add (i) 1]
            refine eR.step 1 (F' := (19, [(0, .ref 9), (1, .ref 17), (2, .ref 21), (3, .int (nI (i + 1)))], [])) (h' := (Gc L xs A B U (no, fd d no (cn B.1 B.2 i nm true 0 7) 2 (sn d no - 2), 0, cn B.1 B.2 i nm true 0 7) S d X)) (fun _ _ => rfl) ?_
            rw [h4]
            exact l_follow_17 hlo hd ht hs hl n (i + 1) no 0 0 _ (by omega) (by decide) hn2
          · rw [show st1 d B.1 B.2 i no nm = (no, fd d no (cn B.1 B.2 i nm true 0 7) 2 (sn d no - 2), si d no (fd d no (cn B.1 B.2 i nm true 0 7) 2 (sn d no - 2)), cn B.1 B.2 i nm true 0 7) from by unfold st1; rw [if_pos h2, if_neg h3, if_neg h4]]
            refine eR.ifc rfl true ((nc_ne (b := 0) (by omega) (by decide)).trans (decide_eq_true (by omega))) ?_
            refine eR.step 5 (F' := (119, [(0, .ref 9), (1, .ref 17), (2, .ref 21), (3, .int (nI (i)))], [.int (nI (fd d no (cn B.1 B.2 i nm true 0 7) 2 (sn d no - 2))), .int (nI (no)), .ref 9, .ref 21])) (h' := (Gc L xs A B U (no, fd d no (cn B.1 B.2 i nm true 0 7) 2 (sn d no - 2), no, cn B.1 B.2 i nm true 0 7) S d X)) (fun _ _ => rfl) ?_
            refine eR.call (k' := 52) (as := [.ref 9, .int (nI (no)), .int (nI (fd d no (cn B.1 B.2 i nm true 0 7) 2 (sn d no - 2)))]) (rest := [.ref 21]) (v := some (.int (nI (si d no (fd d no (cn B.1 B.2 i nm true 0 7) 2 (sn d no - 2)))))) (h1 := (Gc L xs A B U (no, fd d no (cn B.1 B.2 i nm true 0 7) 2 (sn d no - 2), no, cn B.1 B.2 i nm true 0 7) S d X)) rfl rfl rfl rfl (eg (Nat.le_of_ble_eq_true rfl) (show 22 ≤ lo by omega) (Nat.le_of_ble_eq_true rfl)) (c_inodeIn (show 44 ≤ lo - 22 by omega) hd hno (by omega)) ?_
            refine eR.sim rfl (F := (125, [(0, .ref 9), (1, .ref 17), (2, .ref 21), (3, .int (nI (i)))], [])) (h' := (Gc L xs A B U (no, fd d no (cn B.1 B.2 i nm true 0 7) 2 (sn d no - 2), si d no (fd d no (cn B.1 B.2 i nm true 0 7) 2 (sn d no - 2)), cn B.1 B.2 i nm true 0 7) S d X)) (by rfl) ?_
            refine eR.step 1 (F' := (128, [(0, .ref 9), (1, .ref 17), (2, .ref 21), (3, .int (nI (i) + 1))], [])) (h' := (Gc L xs A B U (no, fd d no (cn B.1 B.2 i nm true 0 7) 2 (sn d no - 2), si d no (fd d no (cn B.1 B.2 i nm true 0 7) 2 (sn d no - 2)), cn B.1 B.2 i nm true 0 7) S d X)) (fun _ _ => rfl) ?_
            rw [show nI (i) + 1 = nI (i + 1) from nI_add (i) 1]
            refine eR.step 1 (F' := (19, [(0, .ref 9), (1, .ref 17), (2, .ref 21), (3, .int (nI (i + 1)))], [])) (h' := (Gc L xs A B U (no, fd d no (cn B.1 B.2 i nm true 0 7) 2 (sn d no - 2), si d no (fd d no (cn B.1 B.2 i nm true 0 7) 2 (sn d no - 2)), cn B.1 B.2 i nm true 0 7) S d X)) (fun _ _ => rfl) ?_
            exact l_follow_17 hlo hd ht hs hl n (i + 1) no _ _ _ (by omega) (Nat.lt_trans (hd.1 _) (by decide)) hn2
      · rw [show st1 d B.1 B.2 i no nm = (0, 0, 0, cn B.1 B.2 i nm true 0 7) from by unfold st1; rw [if_neg h2]]
        refine eR.icmp rfl true ((nc_ne (by omega) (by decide)).trans (decide_eq_true (by omega))) ?_
        refine eR.step 1 (F' := (68, [(0, .ref 9), (1, .ref 17), (2, .ref 21), (3, .int (nI (i)))], [.int (nI 0), .ref 21])) (h' := (Gc L xs A B U (pa, sl, no, cn B.1 B.2 i nm true 0 7) S d X)) (fun _ _ => rfl) ?_
        refine eR.sim rfl (F := (71, [(0, .ref 9), (1, .ref 17), (2, .ref 21), (3, .int (nI (i)))], [])) (h' := (Gc L xs A B U (0, sl, no, cn B.1 B.2 i nm true 0 7) S d X)) (by rfl) ?_
        refine eR.step 3 (F' := (76, [(0, .ref 9), (1, .ref 17), (2, .ref 21), (3, .int (nI (i)))], [.int (nI 0), .ref 21])) (h' := (Gc L xs A B U (0, sl, no, cn B.1 B.2 i nm true 0 7) S d X)) (fun _ _ => rfl) ?_
        refine eR.ifc rfl false rfl ?_
        refine eR.step 2 (F' := (95, [(0, .ref 9), (1, .ref 17), (2, .ref 21), (3, .int (nI (i)))], [.int (nI 0), .ref 21])) (h' := (Gc L xs A B U (0, sl, no, cn B.1 B.2 i nm true 0 7) S d X)) (fun _ _ => rfl) ?_
        refine eR.sim rfl (F := (98, [(0, .ref 9), (1, .ref 17), (2, .ref 21), (3, .int (nI (i)))], [])) (h' := (Gc L xs A B U (0, 0, no, cn B.1 B.2 i nm true 0 7) S d X)) (by rfl) ?_
        refine eR.step 3 (F' := (103, [(0, .ref 9), (1, .ref 17), (2, .ref 21), (3, .int (nI (i)))], [.int (nI 0), .ref 21])) (h' := (Gc L xs A B U (0, 0, no, cn B.1 B.2 i nm true 0 7) S d X)) (fun _ _ => rfl) ?_
        refine eR.ifc rfl false rfl ?_
        refine eR.step 2 (F' := (122, [(0, .ref 9), (1, .ref 17), (2, .ref 21), (3, .int (nI (i)))], [.int (nI 0), .ref 21])) (h' := (Gc L xs A B U (0, 0, no, cn B.1 B.2 i nm true 0 7) S d X)) (fun _ _ => rfl) ?_
        refine eR.sim rfl (F := (125, [(0, .ref 9), (1, .ref 17), (2, .ref 21), (3, .int (nI (i)))], [])) (h' := (Gc L xs A B U (0, 0, 0, cn B.1 B.2 i nm true 0 7) S d X)) (by rfl) ?_
        refine eR.step 1 (F' := (128, [(0, .ref 9), (1, .ref 17), (2, .ref 21), (3, .int (nI (i) + 1))], [])) (h' := (Gc L xs A B U (0, 0, 0, cn B.1 B.2 i nm true 0 7) S d X)) (fun _ _ => rfl) ?_
        rw [show nI (i) + 1 = nI (i + 1) from nI_add (i) 1]
        refine eR.step 1 (F' := (19, [(0, .ref 9), (1, .ref 17), (2, .ref 21), (3, .int (nI (i + 1)))], [])) (h' := (Gc L xs A B U (0, 0, 0, cn B.1 B.2 i nm true 0 7) S d X)) (fun _ _ => rfl) ?_
        exact l_follow_17 hlo hd ht hs hl n (i + 1) 0 0 0 _ (by omega) (by decide) hn2
    · rw [if_neg hN, bj_f hN]
      refine eR.ifc rfl true rfl ?_
      refine eR.step 1 (F' := (128, [(0, .ref 9), (1, .ref 17), (2, .ref 21), (3, .int (nI (i) + 1))], [])) (h' := (Gc L xs A B U (pa, sl, no, nm) S d X)) (fun _ _ => rfl) ?_
      rw [show nI (i) + 1 = nI (i + 1) from nI_add (i) 1]
      refine eR.step 1 (F' := (19, [(0, .ref 9), (1, .ref 17), (2, .ref 21), (3, .int (nI (i + 1)))], [])) (h' := (Gc L xs A B U (pa, sl, no, nm) S d X)) (fun _ _ => rfl) ?_
      exact l_follow_17 hlo hd ht hs hl n (i + 1) pa sl no nm (by omega) hno hnm
theorem c_follow_17 {cm sm fr lo L : Nat} {xs : Nat → Int32} {A B : gT} {U V : gU} {S : gS} {d : Nat → Nat} {X : mj_H} (hlo : 89 ≤ lo) (hd : dk d) (ht : ∀ k, B.1 k < 65536) (hl : B.2 ≤ 40) (hn : ∀ k, V.2.2.2 k < 128) : eE mm_P cm sm (fr + 5) lo 65 [.ref 9, .ref 17, .ref 21] (Gc L xs A B U V S d X) (.inl (none), (Gc L xs A B U (fw d B.1 B.2 V) S d X)) := by
  refine eE.of ?_
  refine eR.step 1 (F' := (1, [(0, .ref 9), (1, .ref 17), (2, .ref 21)], [.ref 21])) (h' := (Gc L xs A B U V S d X)) (fun _ _ => rfl) ?_
  refine eR.call (k' := 66) (as := [.ref 21]) (rest := []) (v := none) (h1 := (Gc L xs A B U (0, 0, 0, V.2.2.2) S d X)) rfl rfl rfl rfl (eg (Nat.le_of_ble_eq_true rfl) (show 20 ≤ lo by omega) (Nat.le_of_ble_eq_true rfl)) (c_clearP_21) ?_
  refine eR.step 1 (F' := (5, [(0, .ref 9), (1, .ref 17), (2, .ref 21)], [.ref 17])) (h' := (Gc L xs A B U (0, 0, 0, V.2.2.2) S d X)) (fun _ _ => rfl) ?_
  refine eR.call (k' := 67) (as := [.ref 17]) (rest := []) (v := some (.int (nI (bi (isP B.1 B.2))))) (h1 := (Gc L xs A B U (0, 0, 0, V.2.2.2) S d X)) rfl rfl rfl rfl (eg (Nat.le_of_ble_eq_true rfl) (show 22 ≤ lo by omega) (Nat.le_of_ble_eq_true rfl)) (c_isPath_17 ht hl) ?_
  unfold fw
  by_cases hP : isP B.1 B.2 = true
  · rw [if_pos hP, bj_t hP]
    have h9 := isP_pos hP
    refine eR.ifc rfl true rfl ?_
    refine eR.step 2 (F' := (14, [(0, .ref 9), (1, .ref 17), (2, .ref 21)], [.int (nI 1), .ref 21])) (h' := (Gc L xs A B U (0, 0, 0, V.2.2.2) S d X)) (fun _ _ => rfl) ?_
    refine eR.sim rfl (F := (17, [(0, .ref 9), (1, .ref 17), (2, .ref 21)], [])) (h' := (Gc L xs A B U (0, 0, 1, V.2.2.2) S d X)) (by rfl) ?_
    refine eR.step 2 (F' := (19, [(0, .ref 9), (1, .ref 17), (2, .ref 21), (3, .int (nI 1))], [])) (h' := (Gc L xs A B U (0, 0, 1, V.2.2.2) S d X)) (fun _ _ => rfl) ?_
    exact l_follow_17 hlo hd ht (isP_lt hP) hl (B.2 - 1) 1 0 0 1 _ (by omega) (by decide) hn
  · rw [if_neg hP, bj_f hP]
    refine eR.ifc rfl false rfl ?_
    exact eR.ret rfl rfl rfl

