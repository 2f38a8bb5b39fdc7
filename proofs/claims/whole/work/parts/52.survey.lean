theorem bo_eq1 : vp_nar .boolean (nI 1) = nI 1 := by decide +kernel
theorem bo_eq0 : vp_nar .boolean (nI 0) = nI 0 := by decide +kernel
def ub (s : Nat → Bool) (i : Nat) (v : Bool) : Nat → Bool := fun k => if k = i then v else s k
theorem ub_eq1 (s : Nat → Bool) (i : Nat) : upd (fun k => nI (bi (s k))) i (nI 1) = fun k => nI (bi (ub s i true k)) := by
  funext k
  unfold upd ub
  split <;> rfl
theorem ub_eq0 (s : Nat → Bool) (i : Nat) : upd (fun k => nI (bi (s k))) i (nI 0) = fun k => nI (bi (ub s i false k)) := by
  funext k
  unfold upd ub
  split <;> rfl
/-- n marks from i on taken away -/
def zb : (Nat → Bool) → Nat → Nat → (Nat → Bool)
  | s, _, 0 => s
  | s, i, n + 1 => zb (ub s i false) (i + 1) n
def zn : (Nat → Nat) → Nat → Nat → (Nat → Nat)
  | s, _, 0 => s
  | s, i, n + 1 => zn (ut s i 0) (i + 1) n
/-- a survey's queue holds inodes -/
def sv (S : gS) : Prop := (∀ k, S.2.2.2.1 k < 16) ∧ S.2.2.2.2 ≤ 16
def fg (S : gS) : gS := (zb S.1 0 16, zb S.2.1 0 64, zn S.2.2.1 0 16, S.2.2.2.1, 0)
def sI (S : gS) (i : Nat) : gS := if S.1 i = true then S else if S.2.2.2.2 < 16 then (ub S.1 i true, S.2.1, S.2.2.1, ut S.2.2.2.1 S.2.2.2.2 i, S.2.2.2.2 + 1) else S
def sB (S : gS) (b : Nat) : gS := if 0 < b ∧ b < 64 then (S.1, ub S.2.1 b true, S.2.2.1, S.2.2.2.1, S.2.2.2.2) else S
def sBl (d : Nat → Nat) (i : Nat) : gS → Nat → Nat → gS
  | S, _, 0 => S
  | S, w, n + 1 => sBl d i (sB S (bo d i w)) (w + 1) n
/-- the blocks of an inode noted -/
def sk (d : Nat → Nat) (i : Nat) (S : gS) : gS := sBl d i (sB S (d (32 + (16 * i) + 10))) 0 38
def sL (S : gS) (i : Nat) : gS := (S.1, S.2.1, ut S.2.2.1 i (S.2.2.1 i + 1), S.2.2.2.1, S.2.2.2.2)
def sJ (S : gS) (i : Nat) : gS := if 0 < i ∧ i < 16 then sI (sL S i) i else S
/-- n slots of a directory noted, from j on -/
def sS (d : Nat → Nat) (i : Nat) : gS → Nat → Nat → gS
  | S, _, 0 => S
  | S, j, n + 1 => sS d i (sJ S (si d i j)) (j + 1) n
theorem sv_sI {S : gS} (h : sv S) {i : Nat} (hi : i < 16) : sv (sI S i) := by
  unfold sI
  split
  · exact h
  · split
    · next z => exact ⟨ut_lt h.1 hi, z⟩
    · exact h
theorem sv_sB {S : gS} (h : sv S) (b : Nat) : sv (sB S b) := by
  unfold sB
  split
  · exact h
  · exact h
theorem sv_sJ {S : gS} (h : sv S) (i : Nat) : sv (sJ S i) := by
  unfold sJ
  split
  · next z => exact sv_sI (S := sL S i) h z.2
  · exact h
theorem sB_q (S : gS) (b : Nat) : (sB S b).2.2.2 = S.2.2.2 := by
  unfold sB
  split <;> rfl
theorem sBl_q (d : Nat → Nat) (i : Nat) : ∀ (n w : Nat) (S : gS), (sBl d i S w n).2.2.2 = S.2.2.2
  | 0, _, _ => rfl
  | n + 1, w, S => (sBl_q d i n (w + 1) _).trans (sB_q S _)
theorem sk_q (d : Nat → Nat) (i : Nat) (S : gS) : (sk d i S).2.2.2 = S.2.2.2 := (sBl_q d i 38 0 _).trans (sB_q S _)
theorem sv_of {S T : gS} (h : sv S) (e : T.2.2.2 = S.2.2.2) : sv T := by
  unfold sv
  rw [e]
  exact h
theorem sv_sS (d : Nat → Nat) (i : Nat) : ∀ (n j : Nat) (S : gS), sv S → sv (sS d i S j n)
  | 0, _, _, h => h
  | n + 1, j, S, h => sv_sS d i n (j + 1) _ (sv_sJ h _)
/-- what a survey does at an inode of its queue -/
def sG (d : Nat → Nat) (i : Nat) (S : gS) : gS := if d (32 + (16 * i)) = 2 then sS d i (sk d i S) 0 (sn d i) else sk d i S
theorem sv_sG (d : Nat → Nat) (i : Nat) {S : gS} (h : sv S) : sv (sG d i S) := by
  unfold sG
  split
  · exact sv_sS d i _ 0 _ (sv_of h (sk_q d i S))
  · exact sv_of h (sk_q d i S)
def sT (d : Nat → Nat) : gS → Nat → Nat → gS
  | S, _, 0 => S
  | S, k, n + 1 => if k < S.2.2.2.2 then sT d (sG d (S.2.2.2.1 k) S) (k + 1) n else S
/-- the survey of the whole tree -/
def sW (d : Nat → Nat) (S : gS) : gS := sT d (sI (fg S) 1) 0 16
theorem c_noteBlock {cm sm fr lo L : Nat} {xs : Nat → Int32} {A B : gT} {U V : gU} {S : gS} {d : Nat → Nat} {X : mj_H} {b : Nat} (hb : b < 2 ^ 20) : eE mm_P cm sm (fr + 1) lo 47 [.ref 10, .int (nI (b))] (Gc L xs A B U V S d X) (.inl (none), (Gc L xs A B U V (sB S b) d X)) := by
  unfold sB
  by_cases h0 : 0 < b
  · refine eE.of ?_
    refine eR.step 1 (F' := (1, [(0, .ref 10), (1, .int (nI (b)))], [.int (nI (b))])) (h' := (Gc L xs A B U V S d X)) (fun _ _ => rfl) ?_
    refine eR.ifc rfl false ((nc_le (b := 0) (by omega) (by decide)).trans (decide_eq_false (by omega))) ?_
    refine eR.step 2 (F' := (7, [(0, .ref 10), (1, .int (nI (b)))], [.int (nI 64), .int (nI (b))])) (h' := (Gc L xs A B U V S d X)) (fun _ _ => rfl) ?_
    by_cases h1 : b < 64
    · rw [if_pos ⟨h0, h1⟩]
      refine eR.icmp rfl false ((nc_ge (by omega) (by decide)).trans (decide_eq_false (by omega))) ?_
      refine eR.step 4 (F' := (16, [(0, .ref 10), (1, .int (nI (b)))], [.int (nI 1), .int (nI (b)), .ref 12])) (h' := (Gc L xs A B U V S d X)) (fun _ _ => rfl) ?_
      refine eR.sim rfl (F := (17, [(0, .ref 10), (1, .int (nI (b)))], [])) (h' := (Gc L xs A B U V (S.1, ub S.2.1 b true, S.2.2.1, S.2.2.2.1, S.2.2.2.2) d X)) (by simp [mj_sim, mj_ar, mj_pi, mj_nw, Gc, na_ix h1 (by decide), bo_eq1, ub_eq1]) ?_
      exact eR.ret rfl rfl rfl
    · rw [if_neg (fun z => h1 z.2)]
      refine eR.icmp rfl true ((nc_ge (by omega) (by decide)).trans (decide_eq_true (by omega))) ?_
      exact eR.ret rfl rfl rfl
  · refine eE.of ?_
    rw [if_neg (fun z => h0 z.1)]
    refine eR.step 1 (F' := (1, [(0, .ref 10), (1, .int (nI (b)))], [.int (nI (b))])) (h' := (Gc L xs A B U V S d X)) (fun _ _ => rfl) ?_
    refine eR.ifc rfl true ((nc_le (b := 0) (by omega) (by decide)).trans (decide_eq_true (by omega))) ?_
    exact eR.ret rfl rfl rfl
theorem c_noteInode {cm sm fr lo L : Nat} {xs : Nat → Int32} {A B : gT} {U V : gU} {S : gS} {d : Nat → Nat} {X : mj_H} (hs : sv S) {i : Nat} (hi : i < 16) : eE mm_P cm sm (fr + 1) lo 45 [.ref 10, .int (nI (i))] (Gc L xs A B U V S d X) (.inl (none), (Gc L xs A B U V (sI S i) d X)) := by
  have hq := hs.2
  unfold sI
  refine eE.of ?_
  refine eR.step 3 (F' := (5, [(0, .ref 10), (1, .int (nI (i)))], [.int (nI (i)), .ref 11])) (h' := (Gc L xs A B U V S d X)) (fun _ _ => rfl) ?_
  refine eR.sim rfl (F := (6, [(0, .ref 10), (1, .int (nI (i)))], [.int (nI (bi (S.1 i)))])) (h' := (Gc L xs A B U V S d X)) (by simp [mj_sim, mj_ar, mj_gi, Gc, na_ix hi (by decide)]) ?_
  by_cases h0 : S.1 i = true
  · rw [if_pos h0, bj_t h0]
    refine eR.ifc rfl true rfl ?_
    exact eR.ret rfl rfl rfl
  · rw [if_neg h0, bj_f h0]
    refine eR.ifc rfl false rfl ?_
    refine eR.step 5 (F' := (18, [(0, .ref 10), (1, .int (nI (i)))], [.int (nI 16), .int (nI (S.2.2.2.2))])) (h' := (Gc L xs A B U V S d X)) (fun _ _ => rfl) ?_
    by_cases h1 : S.2.2.2.2 < 16
    · rw [if_pos h1]
      refine eR.icmp rfl false ((nc_ge (by omega) (by decide)).trans (decide_eq_false (by omega))) ?_
      refine eR.step 4 (F' := (27, [(0, .ref 10), (1, .int (nI (i)))], [.int (nI 1), .int (nI (i)), .ref 11])) (h' := (Gc L xs A B U V S d X)) (fun _ _ => rfl) ?_
      refine eR.sim rfl (F := (28, [(0, .ref 10), (1, .int (nI (i)))], [])) (h' := (Gc L xs A B U V (ub S.1 i true, S.2.1, S.2.2.1, S.2.2.2.1, S.2.2.2.2) d X)) (by simp [mj_sim, mj_ar, mj_pi, mj_nw, Gc, na_ix hi (by decide), bo_eq1, ub_eq1]) ?_
      refine eR.step 5 (F' := (37, [(0, .ref 10), (1, .int (nI (i)))], [.int (nI (i)), .int (nI (S.2.2.2.2)), .ref 14])) (h' := (Gc L xs A B U V (ub S.1 i true, S.2.1, S.2.2.1, S.2.2.2.1, S.2.2.2.2) d X)) (fun _ _ => rfl) ?_
      refine eR.sim rfl (F := (38, [(0, .ref 10), (1, .int (nI (i)))], [])) (h' := (Gc L xs A B U V (ub S.1 i true, S.2.1, S.2.2.1, ut S.2.2.2.1 S.2.2.2.2 i, S.2.2.2.2) d X)) (by simp [mj_sim, mj_ar, mj_pi, mj_nw, Gc, na_ix h1 (by decide), ut_eq]) ?_
      refine eR.step 4 (F' := (44, [(0, .ref 10), (1, .int (nI (i)))], [.int (nI 1), .int (nI (S.2.2.2.2)), .ref 10])) (h' := (Gc L xs A B U V (ub S.1 i true, S.2.1, S.2.2.1, ut S.2.2.2.1 S.2.2.2.2 i, S.2.2.2.2) d X)) (fun _ _ => rfl) ?_
      refine eR.nadd rfl ?_
      refine eR.sim rfl (F := (48, [(0, .ref 10), (1, .int (nI (i)))], [])) (h' := (Gc L xs A B U V (ub S.1 i true, S.2.1, S.2.2.1, ut S.2.2.2.1 S.2.2.2.2 i, S.2.2.2.2 + 1) d X)) (by rfl) ?_
      exact eR.ret rfl rfl rfl
    · rw [if_neg h1]
      refine eR.icmp rfl true ((nc_ge (by omega) (by decide)).trans (decide_eq_true (by omega))) ?_
      exact eR.ret rfl rfl rfl
theorem l_noteBlocks {cm sm fr lo L : Nat} {xs : Nat → Int32} {A B : gT} {U V : gU} {d : Nat → Nat} {X : mj_H} (hlo : 66 ≤ lo) (hd : dk d) {i : Nat} (hi : i < 2 ^ 20) : ∀ (n w : Nat) (S : gS), w + n = 38 → eR mm_P cm sm (fr + 3) lo 46 (14, [(0, .ref 10), (1, .int (nI (i))), (2, .int (nI (w)))], []) (Gc L xs A B U V S d X) (.inl none, (Gc L xs A B U V (sBl d i S w n) d X))
  | 0, w, S, hq => by
    refine eR.step 2 (F' := (17, [(0, .ref 10), (1, .int (nI (i))), (2, .int (nI (w)))], [.int (nI 38), .int (nI (w))])) (h' := (Gc L xs A B U V S d X)) (fun _ _ => rfl) ?_
    refine eR.icmp rfl true ((nc_ge (by omega) (by decide)).trans (decide_eq_true (by omega))) ?_
    exact eR.ret rfl rfl rfl
  | n + 1, w, S, hq => by
    refine eR.step 2 (F' := (17, [(0, .ref 10), (1, .int (nI (i))), (2, .int (nI (w)))], [.int (nI 38), .int (nI (w))])) (h' := (Gc L xs A B U V S d X)) (fun _ _ => rfl) ?_
    refine eR.icmp rfl false ((nc_ge (by omega) (by decide)).trans (decide_eq_false (by omega))) ?_
    refine eR.step 5 (F' := (27, [(0, .ref 10), (1, .int (nI (i))), (2, .int (nI (w)))], [.int (nI (w)), .int (nI (i)), .ref 8, .ref 10])) (h' := (Gc L xs A B U V S d X)) (fun _ _ => rfl) ?_
    refine eR.call (k' := 48) (as := [.ref 8, .int (nI (i)), .int (nI (w))]) (rest := [.ref 10]) (v := some (.int (nI (bo d i w)))) (h1 := (Gc L xs A B U V S d X)) rfl rfl rfl rfl (eg (Nat.le_of_ble_eq_true rfl) (show 22 ≤ lo by omega) (Nat.le_of_ble_eq_true rfl)) (c_blockOf (show 44 ≤ lo - 22 by omega) hd hi (by omega)) ?_
    refine eR.call (k' := 47) (as := [.ref 10, .int (nI (bo d i w))]) (rest := []) (v := none) (h1 := (Gc L xs A B U V (sB S (bo d i w)) d X)) rfl rfl rfl rfl (eg (Nat.le_of_ble_eq_true rfl) (show 21 ≤ lo by omega) (Nat.le_of_ble_eq_true rfl)) (c_noteBlock (Nat.lt_trans (bo_lt hd i w) (by decide))) ?_
    refine eR.step 1 (F' := (36, [(0, .ref 10), (1, .int (nI (i))), (2, .int (nI (w) + 1))], [])) (h' := (Gc L xs A B U V (sB S (bo d i w)) d X)) (fun _ _ => rfl) ?_
    rw [show nI (w) + 1 = nI (w + 1) from nI_add (w) 1]
    refine eR.step 1 (F' := (14, [(0, .ref 10), (1, .int (nI (i))), (2, .int (nI (w + 1)))], [])) (h' := (Gc L xs A B U V (sB S (bo d i w)) d X)) (fun _ _ => rfl) ?_
    exact l_noteBlocks hlo hd hi n (w + 1) _ (by omega)
theorem c_noteBlocks {cm sm fr lo L : Nat} {xs : Nat → Int32} {A B : gT} {U V : gU} {S : gS} {d : Nat → Nat} {X : mj_H} (hlo : 66 ≤ lo) (hd : dk d) {i : Nat} (hi : i < 2 ^ 20) : eE mm_P cm sm (fr + 4) lo 46 [.ref 10, .int (nI (i))] (Gc L xs A B U V S d X) (.inl (none), (Gc L xs A B U V (sk d i S) d X)) := by
  refine eE.of ?_
  refine eR.step 4 (F' := (6, [(0, .ref 10), (1, .int (nI (i)))], [.int (nI (i)), .ref 8, .ref 10])) (h' := (Gc L xs A B U V S d X)) (fun _ _ => rfl) ?_
  refine eR.call (k' := 19) (as := [.ref 8, .int (nI (i))]) (rest := [.ref 10]) (v := some (.int (nI (d (32 + (16 * i) + 10))))) (h1 := (Gc L xs A B U V S d X)) rfl rfl rfl rfl (eg (Nat.le_of_ble_eq_true rfl) (show 21 ≤ lo by omega) (Nat.le_of_ble_eq_true rfl)) (c_indirect (show 21 ≤ lo - 21 by omega) hd hi) ?_
  refine eR.call (k' := 47) (as := [.ref 10, .int (nI (d (32 + (16 * i) + 10)))]) (rest := []) (v := none) (h1 := (Gc L xs A B U V (sB S (d (32 + (16 * i) + 10))) d X)) rfl rfl rfl rfl (eg (Nat.le_of_ble_eq_true rfl) (show 21 ≤ lo by omega) (Nat.le_of_ble_eq_true rfl)) (c_noteBlock (Nat.lt_trans (hd.1 _) (by decide))) ?_
  refine eR.step 2 (F' := (14, [(0, .ref 10), (1, .int (nI (i))), (2, .int (nI 0))], [])) (h' := (Gc L xs A B U V (sB S (d (32 + (16 * i) + 10))) d X)) (fun _ _ => rfl) ?_
  exact l_noteBlocks hlo hd hi 38 0 _ (by decide)
theorem l_noteSlots {cm sm fr lo L : Nat} {xs : Nat → Int32} {A B : gT} {U V : gU} {d : Nat → Nat} {X : mj_H} (hlo : 66 ≤ lo) (hd : dk d) {i : Nat} (hi : i < 2 ^ 20) {m : Nat} (hm : m ≤ 24) : ∀ (n j : Nat) (S : gS) (z : List (Nat × Value)), (z = [] ∨ ∃ v, z = [(4, v)]) → sv S → j + n = m → eR mm_P cm sm (fr + 3) lo 49 (11, (0, .ref 10) :: (1, .int (nI i)) :: (2, .int (nI m)) :: (3, .int (nI j)) :: z, []) (Gc L xs A B U V S d X) (.inl none, (Gc L xs A B U V (sS d i S j n) d X))
  | 0, j, S, z, hz, hs, hq => by
    rcases hz with rfl | ⟨v, rfl⟩
    · refine eR.step 2 (F' := (13, [(0, .ref 10), (1, .int (nI (i))), (2, .int (nI (m))), (3, .int (nI (j)))], [.int (nI (m)), .int (nI (j))])) (h' := (Gc L xs A B U V S d X)) (fun _ _ => rfl) ?_
      refine eR.icmp rfl true ((nc_ge (by omega) (by omega)).trans (decide_eq_true (by omega))) ?_
      exact eR.ret rfl rfl rfl
    · refine eR.step 2 (F' := (13, [(0, .ref 10), (1, .int (nI (i))), (2, .int (nI (m))), (3, .int (nI (j))), (4, v)], [.int (nI (m)), .int (nI (j))])) (h' := (Gc L xs A B U V S d X)) (fun _ _ => rfl) ?_
      refine eR.icmp rfl true ((nc_ge (by omega) (by omega)).trans (decide_eq_true (by omega))) ?_
      exact eR.ret rfl rfl rfl
  | n + 1, j, S, z, hz, hs, hq => by
    unfold sS
    rcases hz with rfl | ⟨v, rfl⟩
    · refine eR.step 2 (F' := (13, [(0, .ref 10), (1, .int (nI (i))), (2, .int (nI (m))), (3, .int (nI (j)))], [.int (nI (m)), .int (nI (j))])) (h' := (Gc L xs A B U V S d X)) (fun _ _ => rfl) ?_
      refine eR.icmp rfl false ((nc_ge (by omega) (by omega)).trans (decide_eq_false (by omega))) ?_
      refine eR.step 4 (F' := (22, [(0, .ref 10), (1, .int (nI (i))), (2, .int (nI (m))), (3, .int (nI (j)))], [.int (nI (j)), .int (nI (i)), .ref 9])) (h' := (Gc L xs A B U V S d X)) (fun _ _ => rfl) ?_
      refine eR.call (k' := 52) (as := [.ref 9, .int (nI (i)), .int (nI (j))]) (rest := []) (v := some (.int (nI (si d i j)))) (h1 := (Gc L xs A B U V S d X)) rfl rfl rfl rfl (eg (Nat.le_of_ble_eq_true rfl) (show 22 ≤ lo by omega) (Nat.le_of_ble_eq_true rfl)) (c_inodeIn (show 44 ≤ lo - 22 by omega) hd hi (by omega)) ?_
      refine eR.step 2 (F' := (29, [(0, .ref 10), (1, .int (nI (i))), (2, .int (nI (m))), (3, .int (nI (j))), (4, .int (nI (si d i j)))], [.int (nI (si d i j))])) (h' := (Gc L xs A B U V S d X)) (fun _ _ => rfl) ?_
      have h6 : si d i j < 256 := hd.1 _
      by_cases h0 : 0 < si d i j
      · refine eR.ifc rfl false ((nc_le (b := 0) (by omega) (by decide)).trans (decide_eq_false (by omega))) ?_
        refine eR.step 2 (F' := (36, [(0, .ref 10), (1, .int (nI (i))), (2, .int (nI (m))), (3, .int (nI (j))), (4, .int (nI (si d i j)))], [.int (nI 16), .int (nI (si d i j))])) (h' := (Gc L xs A B U V S d X)) (fun _ _ => rfl) ?_
        by_cases h1 : si d i j < 16
        · rw [show sJ S (si d i j) = sI (sL S (si d i j)) (si d i j) from if_pos ⟨h0, h1⟩]
          refine eR.icmp rfl false ((nc_ge (by omega) (by decide)).trans (decide_eq_false (by omega))) ?_
          refine eR.step 4 (F' := (46, [(0, .ref 10), (1, .int (nI (i))), (2, .int (nI (m))), (3, .int (nI (j))), (4, .int (nI (si d i j)))], [.int (nI (si d i j)), .ref 13, .int (nI (si d i j)), .ref 13])) (h' := (Gc L xs A B U V S d X)) (fun _ _ => rfl) ?_
          refine eR.sim rfl (F := (47, [(0, .ref 10), (1, .int (nI (i))), (2, .int (nI (m))), (3, .int (nI (j))), (4, .int (nI (si d i j)))], [.int (nI (S.2.2.1 (si d i j))), .int (nI (si d i j)), .ref 13])) (h' := (Gc L xs A B U V S d X)) (by simp [mj_sim, mj_ar, mj_gi, Gc, na_ix h1 (by decide)]) ?_
          refine eR.step 1 (F' := (48, [(0, .ref 10), (1, .int (nI (i))), (2, .int (nI (m))), (3, .int (nI (j))), (4, .int (nI (si d i j)))], [.int (nI 1), .int (nI (S.2.2.1 (si d i j))), .int (nI (si d i j)), .ref 13])) (h' := (Gc L xs A B U V S d X)) (fun _ _ => rfl) ?_
          refine eR.nadd rfl ?_
          refine eR.sim rfl (F := (50, [(0, .ref 10), (1, .int (nI (i))), (2, .int (nI (m))), (3, .int (nI (j))), (4, .int (nI (si d i j)))], [])) (h' := (Gc L xs A B U V (sL S (si d i j)) d X)) (by simp [mj_sim, mj_ar, mj_pi, mj_nw, Gc, na_ix h1 (by decide), ut_eq, sL]) ?_
          refine eR.step 2 (F' := (53, [(0, .ref 10), (1, .int (nI (i))), (2, .int (nI (m))), (3, .int (nI (j))), (4, .int (nI (si d i j)))], [.int (nI (si d i j)), .ref 10])) (h' := (Gc L xs A B U V (sL S (si d i j)) d X)) (fun _ _ => rfl) ?_
          refine eR.call (k' := 45) (as := [.ref 10, .int (nI (si d i j))]) (rest := []) (v := none) (h1 := (Gc L xs A B U V (sI (sL S (si d i j)) (si d i j)) d X)) rfl rfl rfl rfl (eg (Nat.le_of_ble_eq_true rfl) (show 21 ≤ lo by omega) (Nat.le_of_ble_eq_true rfl)) (c_noteInode (S := sL S (si d i j)) hs h1) ?_
          refine eR.step 1 (F' := (59, [(0, .ref 10), (1, .int (nI (i))), (2, .int (nI (m))), (3, .int (nI (j) + 1)), (4, .int (nI (si d i j)))], [])) (h' := (Gc L xs A B U V (sI (sL S (si d i j)) (si d i j)) d X)) (fun _ _ => rfl) ?_
          rw [show nI (j) + 1 = nI (j + 1) from nI_add (j) 1]
          refine eR.step 1 (F' := (11, [(0, .ref 10), (1, .int (nI (i))), (2, .int (nI (m))), (3, .int (nI (j + 1))), (4, .int (nI (si d i j)))], [])) (h' := (Gc L xs A B U V (sI (sL S (si d i j)) (si d i j)) d X)) (fun _ _ => rfl) ?_
          exact l_noteSlots hlo hd hi hm n (j + 1) _ _ (Or.inr ⟨_, rfl⟩) (sv_sI (S := sL S (si d i j)) hs h1) (by omega)
        · rw [show sJ S (si d i j) = S from if_neg (fun z => h1 z.2)]
          refine eR.icmp rfl true ((nc_ge (by omega) (by decide)).trans (decide_eq_true (by omega))) ?_
          refine eR.step 1 (F' := (59, [(0, .ref 10), (1, .int (nI (i))), (2, .int (nI (m))), (3, .int (nI (j) + 1)), (4, .int (nI (si d i j)))], [])) (h' := (Gc L xs A B U V S d X)) (fun _ _ => rfl) ?_
          rw [show nI (j) + 1 = nI (j + 1) from nI_add (j) 1]
          refine eR.step 1 (F' := (11, [(0, .ref 10), (1, .int (nI (i))), (2, .int (nI (m))), (3, .int (nI (j + 1))), (4, .int (nI (si d i j)))], [])) (h' := (Gc L xs A B U V S d X)) (fun _ _ => rfl) ?_
          exact l_noteSlots hlo hd hi hm n (j + 1) _ _ (Or.inr ⟨_, rfl⟩) hs (by omega)
      · rw [show sJ S (si d i j) = S from if_neg (fun z => h0 z.1)]
        refine eR.ifc rfl true ((nc_le (b := 0) (by omega) (by decide)).trans (decide_eq_true (by omega))) ?_
        refine eR.step 1 (F' := (59, [(0, .ref 10), (1, .int (nI (i))), (2, .int (nI (m))), (3, .int (nI (j) + 1)), (4, .int (nI (si d i j)))], [])) (h' := (Gc L xs A B U V S d X)) (fun _ _ => rfl) ?_
        rw [show nI (j) + 1 = nI (j + 1) from nI_add (j) 1]
        refine eR.step 1 (F' := (11, [(0, .ref 10), (1, .int (nI (i))), (2, .int (nI (m))), (3, .int (nI (j + 1))), (4, .int (nI (si d i j)))], [])) (h' := (Gc L xs A B U V S d X)) (fun _ _ => rfl) ?_
        exact l_noteSlots hlo hd hi hm n (j + 1) _ _ (Or.inr ⟨_, rfl⟩) hs (by omega)
    · refine eR.step 2 (F' := (13, [(0, .ref 10), (1, .int (nI (i))), (2, .int (nI (m))), (3, .int (nI (j))), (4, v)], [.int (nI (m)), .int (nI (j))])) (h' := (Gc L xs A B U V S d X)) (fun _ _ => rfl) ?_
      refine eR.icmp rfl false ((nc_ge (by omega) (by omega)).trans (decide_eq_false (by omega))) ?_
      refine eR.step 4 (F' := (22, [(0, .ref 10), (1, .int (nI (i))), (2, .int (nI (m))), (3, .int (nI (j))), (4, v)], [.int (nI (j)), .int (nI (i)), .ref 9])) (h' := (Gc L xs A B U V S d X)) (fun _ _ => rfl) ?_
      refine eR.call (k' := 52) (as := [.ref 9, .int (nI (i)), .int (nI (j))]) (rest := []) (v := some (.int (nI (si d i j)))) (h1 := (Gc L xs A B U V S d X)) rfl rfl rfl rfl (eg (Nat.le_of_ble_eq_true rfl) (show 22 ≤ lo by omega) (Nat.le_of_ble_eq_true rfl)) (c_inodeIn (show 44 ≤ lo - 22 by omega) hd hi (by omega)) ?_
      refine eR.step 2 (F' := (29, [(0, .ref 10), (1, .int (nI (i))), (2, .int (nI (m))), (3, .int (nI (j))), (4, .int (nI (si d i j)))], [.int (nI (si d i j))])) (h' := (Gc L xs A B U V S d X)) (fun _ _ => rfl) ?_
      have h6 : si d i j < 256 := hd.1 _
      by_cases h0 : 0 < si d i j
      · refine eR.ifc rfl false ((nc_le (b := 0) (by omega) (by decide)).trans (decide_eq_false (by omega))) ?_
        refine eR.step 2 (F' := (36, [(0, .ref 10), (1, .int (nI (i))), (2, .int (nI (m))), (3, .int (nI (j))), (4, .int (nI (si d i j)))], [.int (nI 16), .int (nI (si d i j))])) (h' := (Gc L xs A B U V S d X)) (fun _ _ => rfl) ?_
        by_cases h1 : si d i j < 16
        · rw [show sJ S (si d i j) = sI (sL S (si d i j)) (si d i j) from if_pos ⟨h0, h1⟩]
          refine eR.icmp rfl false ((nc_ge (by omega) (by decide)).trans (decide_eq_false (by omega))) ?_
          refine eR.step 4 (F' := (46, [(0, .ref 10), (1, .int (nI (i))), (2, .int (nI (m))), (3, .int (nI (j))), (4, .int (nI (si d i j)))], [.int (nI (si d i j)), .ref 13, .int (nI (si d i j)), .ref 13])) (h' := (Gc L xs A B U V S d X)) (fun _ _ => rfl) ?_
          refine eR.sim rfl (F := (47, [(0, .ref 10), (1, .int (nI (i))), (2, .int (nI (m))), (3, .int (nI (j))), (4, .int (nI (si d i j)))], [.int (nI (S.2.2.1 (si d i j))), .int (nI (si d i j)), .ref 13])) (h' := (Gc L xs A B U V S d X)) (by simp [mj_sim, mj_ar, mj_gi, Gc, na_ix h1 (by decide)]) ?_
          refine eR.step 1 (F' := (48, [(0, .ref 10), (1, .int (nI (i))), (2, .int (nI (m))), (3, .int (nI (j))), (4, .int (nI (si d i j)))], [.int (nI 1), .int (nI (S.2.2.1 (si d i j))), .int (nI (si d i j)), .ref 13])) (h' := (Gc L xs A B U V S d X)) (fun _ _ => rfl) ?_
          refine eR.nadd rfl ?_
          refine eR.sim rfl (F := (50, [(0, .ref 10), (1, .int (nI (i))), (2, .int (nI (m))), (3, .int (nI (j))), (4, .int (nI (si d i j)))], [])) (h' := (Gc L xs A B U V (sL S (si d i j)) d X)) (by simp [mj_sim, mj_ar, mj_pi, mj_nw, Gc, na_ix h1 (by decide), ut_eq, sL]) ?_
          refine eR.step 2 (F' := (53, [(0, .ref 10), (1, .int (nI (i))), (2, .int (nI (m))), (3, .int (nI (j))), (4, .int (nI (si d i j)))], [.int (nI (si d i j)), .ref 10])) (h' := (Gc L xs A B U V (sL S (si d i j)) d X)) (fun _ _ => rfl) ?_
          refine eR.call (k' := 45) (as := [.ref 10, .int (nI (si d i j))]) (rest := []) (v := none) (h1 := (Gc L xs A B U V (sI (sL S (si d i j)) (si d i j)) d X)) rfl rfl rfl rfl (eg (Nat.le_of_ble_eq_true rfl) (show 21 ≤ lo by omega) (Nat.le_of_ble_eq_true rfl)) (c_noteInode (S := sL S (si d i j)) hs h1) ?_
          refine eR.step 1 (F' := (59, [(0, .ref 10), (1, .int (nI (i))), (2, .int (nI (m))), (3, .int (nI (j) + 1)), (4, .int (nI (si d i j)))], [])) (h' := (Gc L xs A B U V (sI (sL S (si d i j)) (si d i j)) d X)) (fun _ _ => rfl) ?_
          rw [show nI (j) + 1 = nI (j + 1) from nI_add (j) 1]
          refine eR.step 1 (F' := (11, [(0, .ref 10), (1, .int (nI (i))), (2, .int (nI (m))), (3, .int (nI (j + 1))), (4, .int (nI (si d i j)))], [])) (h' := (Gc L xs A B U V (sI (sL S (si d i j)) (si d i j)) d X)) (fun _ _ => rfl) ?_
          exact l_noteSlots hlo hd hi hm n (j + 1) _ _ (Or.inr ⟨_, rfl⟩) (sv_sI (S := sL S (si d i j)) hs h1) (by omega)
        · rw [show sJ S (si d i j) = S from if_neg (fun z => h1 z.2)]
          refine eR.icmp rfl true ((nc_ge (by omega) (by decide)).trans (decide_eq_true (by omega))) ?_
          refine eR.step 1 (F' := (59, [(0, .ref 10), (1, .int (nI (i))), (2, .int (nI (m))), (3, .int (nI (j) + 1)), (4, .int (nI (si d i j)))], [])) (h' := (Gc L xs A B U V S d X)) (fun _ _ => rfl) ?_
          rw [show nI (j) + 1 = nI (j + 1) from nI_add (j) 1]
          refine eR.step 1 (F' := (11, [(0, .ref 10), (1, .int (nI (i))), (2, .int (nI (m))), (3, .int (nI (j + 1))), (4, .int (nI (si d i j)))], [])) (h' := (Gc L xs A B U V S d X)) (fun _ _ => rfl) ?_
          exact l_noteSlots hlo hd hi hm n (j + 1) _ _ (Or.inr ⟨_, rfl⟩) hs (by omega)
      · rw [show sJ S (si d i j) = S from if_neg (fun z => h0 z.1)]
        refine eR.ifc rfl true ((nc_le (b := 0) (by omega) (by decide)).trans (decide_eq_true (by omega))) ?_
        refine eR.step 1 (F' := (59, [(0, .ref 10), (1, .int (nI (i))), (2, .int (nI (m))), (3, .int (nI (j) + 1)), (4, .int (nI (si d i j)))], [])) (h' := (Gc L xs A B U V S d X)) (fun _ _ => rfl) ?_
        rw [show nI (j) + 1 = nI (j + 1) from nI_add (j) 1]
        refine eR.step 1 (F' := (11, [(0, .ref 10), (1, .int (nI (i))), (2, .int (nI (m))), (3, .int (nI (j + 1))), (4, .int (nI (si d i j)))], [])) (h' := (Gc L xs A B U V S d X)) (fun _ _ => rfl) ?_
        exact l_noteSlots hlo hd hi hm n (j + 1) _ _ (Or.inr ⟨_, rfl⟩) hs (by omega)
theorem c_noteSlots {cm sm fr lo L : Nat} {xs : Nat → Int32} {A B : gT} {U V : gU} {S : gS} {d : Nat → Nat} {X : mj_H} (hlo : 66 ≤ lo) (hd : dk d) (hs : sv S) {i : Nat} (hi : i < 2 ^ 20) : eE mm_P cm sm (fr + 4) lo 49 [.ref 10, .int (nI (i))] (Gc L xs A B U V S d X) (.inl (none), (Gc L xs A B U V (sS d i S 0 (sn d i)) d X)) := by
  refine eE.of ?_
  refine eR.step 3 (F' := (5, [(0, .ref 10), (1, .int (nI (i)))], [.int (nI (i)), .ref 9])) (h' := (Gc L xs A B U V S d X)) (fun _ _ => rfl) ?_
  refine eR.call (k' := 50) (as := [.ref 9, .int (nI (i))]) (rest := []) (v := some (.int (nI (sn d i)))) (h1 := (Gc L xs A B U V S d X)) rfl rfl rfl rfl (eg (Nat.le_of_ble_eq_true rfl) (show 21 ≤ lo by omega) (Nat.le_of_ble_eq_true rfl)) (c_slots (show 43 ≤ lo - 21 by omega) hd hi) ?_
  refine eR.step 3 (F' := (11, [(0, .ref 10), (1, .int (nI (i))), (2, .int (nI (sn d i))), (3, .int (nI 0))], [])) (h' := (Gc L xs A B U V S d X)) (fun _ _ => rfl) ?_
  exact l_noteSlots hlo hd hi (sn_le d i) (sn d i) 0 S [] (Or.inl rfl) hs (by omega)
theorem l_forget2 {cm sm fr lo L : Nat} {xs : Nat → Int32} {A B : gT} {U V : gU} {S : gS} {d : Nat → Nat} {X : mj_H} {s : Nat → Bool} {l : Nat → Nat} : ∀ (n i : Nat) (b : Nat → Bool), i + n = 64 → eR mm_P cm sm fr lo 44 (35, [(0, .ref 10), (1, .int (nI (i)))], []) (Gc L xs A B U V (s, b, l, S.2.2.2.1, 0) d X) (.inl none, (Gc L xs A B U V (s, zb b i n, l, S.2.2.2.1, 0) d X))
  | 0, i, b, hq => by
    refine eR.step 2 (F' := (38, [(0, .ref 10), (1, .int (nI (i)))], [.int (nI 64), .int (nI (i))])) (h' := (Gc L xs A B U V (s, b, l, S.2.2.2.1, 0) d X)) (fun _ _ => rfl) ?_
    refine eR.icmp rfl true ((nc_ge (by omega) (by decide)).trans (decide_eq_true (by omega))) ?_
    exact eR.ret rfl rfl rfl
  | n + 1, i, b, hq => by
    refine eR.step 2 (F' := (38, [(0, .ref 10), (1, .int (nI (i)))], [.int (nI 64), .int (nI (i))])) (h' := (Gc L xs A B U V (s, b, l, S.2.2.2.1, 0) d X)) (fun _ _ => rfl) ?_
    refine eR.icmp rfl false ((nc_ge (by omega) (by decide)).trans (decide_eq_false (by omega))) ?_
    refine eR.step 4 (F' := (47, [(0, .ref 10), (1, .int (nI (i)))], [.int (nI 0), .int (nI (i)), .ref 12])) (h' := (Gc L xs A B U V (s, b, l, S.2.2.2.1, 0) d X)) (fun _ _ => rfl) ?_
    refine eR.sim rfl (F := (48, [(0, .ref 10), (1, .int (nI (i)))], [])) (h' := (Gc L xs A B U V (s, ub b i false, l, S.2.2.2.1, 0) d X)) (by simp [mj_sim, mj_ar, mj_pi, mj_nw, Gc, na_ix (show i < 64 by omega) (by decide), bo_eq0, ub_eq0]) ?_
    refine eR.step 1 (F' := (51, [(0, .ref 10), (1, .int (nI (i) + 1))], [])) (h' := (Gc L xs A B U V (s, ub b i false, l, S.2.2.2.1, 0) d X)) (fun _ _ => rfl) ?_
    rw [show nI (i) + 1 = nI (i + 1) from nI_add (i) 1]
    refine eR.step 1 (F' := (35, [(0, .ref 10), (1, .int (nI (i + 1)))], [])) (h' := (Gc L xs A B U V (s, ub b i false, l, S.2.2.2.1, 0) d X)) (fun _ _ => rfl) ?_
    exact l_forget2 n (i + 1) _ (by omega)
theorem l_forget1 {cm sm fr lo L : Nat} {xs : Nat → Int32} {A B : gT} {U V : gU} {S : gS} {d : Nat → Nat} {X : mj_H} : ∀ (n i : Nat) (s : Nat → Bool) (l : Nat → Nat), i + n = 16 → eR mm_P cm sm fr lo 44 (7, [(0, .ref 10), (1, .int (nI (i)))], []) (Gc L xs A B U V (s, S.2.1, l, S.2.2.2.1, 0) d X) (.inl none, (Gc L xs A B U V (zb s i n, zb S.2.1 0 64, zn l i n, S.2.2.2.1, 0) d X))
  | 0, i, s, l, hq => by
    refine eR.step 2 (F' := (10, [(0, .ref 10), (1, .int (nI (i)))], [.int (nI 16), .int (nI (i))])) (h' := (Gc L xs A B U V (s, S.2.1, l, S.2.2.2.1, 0) d X)) (fun _ _ => rfl) ?_
    refine eR.icmp rfl true ((nc_ge (by omega) (by decide)).trans (decide_eq_true (by omega))) ?_
    refine eR.step 2 (F' := (35, [(0, .ref 10), (1, .int (nI 0))], [])) (h' := (Gc L xs A B U V (s, S.2.1, l, S.2.2.2.1, 0) d X)) (fun _ _ => rfl) ?_
    exact l_forget2 64 0 _ (by decide)
  | n + 1, i, s, l, hq => by
    refine eR.step 2 (F' := (10, [(0, .ref 10), (1, .int (nI (i)))], [.int (nI 16), .int (nI (i))])) (h' := (Gc L xs A B U V (s, S.2.1, l, S.2.2.2.1, 0) d X)) (fun _ _ => rfl) ?_
    refine eR.icmp rfl false ((nc_ge (by omega) (by decide)).trans (decide_eq_false (by omega))) ?_
    refine eR.step 4 (F' := (19, [(0, .ref 10), (1, .int (nI (i)))], [.int (nI 0), .int (nI (i)), .ref 11])) (h' := (Gc L xs A B U V (s, S.2.1, l, S.2.2.2.1, 0) d X)) (fun _ _ => rfl) ?_
    refine eR.sim rfl (F := (20, [(0, .ref 10), (1, .int (nI (i)))], [])) (h' := (Gc L xs A B U V (ub s i false, S.2.1, l, S.2.2.2.1, 0) d X)) (by simp [mj_sim, mj_ar, mj_pi, mj_nw, Gc, na_ix (show i < 16 by omega) (by decide), bo_eq0, ub_eq0]) ?_
    refine eR.step 4 (F' := (26, [(0, .ref 10), (1, .int (nI (i)))], [.int (nI 0), .int (nI (i)), .ref 13])) (h' := (Gc L xs A B U V (ub s i false, S.2.1, l, S.2.2.2.1, 0) d X)) (fun _ _ => rfl) ?_
    refine eR.sim rfl (F := (27, [(0, .ref 10), (1, .int (nI (i)))], [])) (h' := (Gc L xs A B U V (ub s i false, S.2.1, ut l i 0, S.2.2.2.1, 0) d X)) (by simp [mj_sim, mj_ar, mj_pi, mj_nw, Gc, na_ix (show i < 16 by omega) (by decide), ut_eq]) ?_
    refine eR.step 1 (F' := (30, [(0, .ref 10), (1, .int (nI (i) + 1))], [])) (h' := (Gc L xs A B U V (ub s i false, S.2.1, ut l i 0, S.2.2.2.1, 0) d X)) (fun _ _ => rfl) ?_
    rw [show nI (i) + 1 = nI (i + 1) from nI_add (i) 1]
    refine eR.step 1 (F' := (7, [(0, .ref 10), (1, .int (nI (i + 1)))], [])) (h' := (Gc L xs A B U V (ub s i false, S.2.1, ut l i 0, S.2.2.2.1, 0) d X)) (fun _ _ => rfl) ?_
    exact l_forget1 n (i + 1) _ _ (by omega)
theorem c_forget {cm sm fr lo L : Nat} {xs : Nat → Int32} {A B : gT} {U V : gU} {S : gS} {d : Nat → Nat} {X : mj_H}  : eE mm_P cm sm (fr + 1) lo 44 [.ref 10] (Gc L xs A B U V S d X) (.inl (none), (Gc L xs A B U V (fg S) d X)) := by
  refine eE.of ?_
  refine eR.step 2 (F' := (2, [(0, .ref 10)], [.int (nI 0), .ref 10])) (h' := (Gc L xs A B U V S d X)) (fun _ _ => rfl) ?_
  refine eR.sim rfl (F := (5, [(0, .ref 10)], [])) (h' := (Gc L xs A B U V (S.1, S.2.1, S.2.2.1, S.2.2.2.1, 0) d X)) (by rfl) ?_
  refine eR.step 2 (F' := (7, [(0, .ref 10), (1, .int (nI 0))], [])) (h' := (Gc L xs A B U V (S.1, S.2.1, S.2.2.1, S.2.2.2.1, 0) d X)) (fun _ _ => rfl) ?_
  exact l_forget1 16 0 _ _ (by decide)
theorem l_goThrough {cm sm fr lo L : Nat} {xs : Nat → Int32} {A B : gT} {U V : gU} {d : Nat → Nat} {X : mj_H} (hlo : 90 ≤ lo) (hd : dk d) : ∀ (n k : Nat) (S : gS), sv S → k + n = 16 → eR mm_P cm sm (fr + 4) lo 43 (11, [(0, .ref 10), (1, .int (nI (k)))], []) (Gc L xs A B U V S d X) (.inl none, (Gc L xs A B U V (sT d S k n) d X))
  | 0, k, S, hs, hq => by
    have h6 := hs.2
    refine eR.step 3 (F' := (16, [(0, .ref 10), (1, .int (nI (k)))], [.int (nI (S.2.2.2.2)), .int (nI (k))])) (h' := (Gc L xs A B U V S d X)) (fun _ _ => rfl) ?_
    by_cases h0 : k < S.2.2.2.2
    · omega
    · refine eR.icmp rfl true ((nc_ge (by omega) (by omega)).trans (decide_eq_true (by omega))) ?_
      exact eR.ret rfl rfl rfl
  | n + 1, k, S, hs, hq => by
    have h6 := hs.2
    unfold sT
    refine eR.step 3 (F' := (16, [(0, .ref 10), (1, .int (nI (k)))], [.int (nI (S.2.2.2.2)), .int (nI (k))])) (h' := (Gc L xs A B U V S d X)) (fun _ _ => rfl) ?_
    by_cases h0 : k < S.2.2.2.2
    · rw [if_pos h0]
      have hi : S.2.2.2.1 k < 2 ^ 20 := Nat.lt_trans (hs.1 k) (by decide)
      refine eR.icmp rfl false ((nc_ge (by omega) (by omega)).trans (decide_eq_false (by omega))) ?_
      refine eR.step 4 (F' := (25, [(0, .ref 10), (1, .int (nI (k)))], [.int (nI 16), .int (nI (k))])) (h' := (Gc L xs A B U V S d X)) (fun _ _ => rfl) ?_
      refine eR.icmp rfl false ((nc_ge (by omega) (by decide)).trans (decide_eq_false (by omega))) ?_
      refine eR.step 4 (F' := (34, [(0, .ref 10), (1, .int (nI (k)))], [.int (nI (k)), .ref 14, .ref 10])) (h' := (Gc L xs A B U V S d X)) (fun _ _ => rfl) ?_
      refine eR.sim rfl (F := (35, [(0, .ref 10), (1, .int (nI (k)))], [.int (nI (S.2.2.2.1 k)), .ref 10])) (h' := (Gc L xs A B U V S d X)) (by simp [mj_sim, mj_ar, mj_gi, Gc, na_ix (show k < 16 by omega) (by decide)]) ?_
      refine eR.call (k' := 46) (as := [.ref 10, .int (nI (S.2.2.2.1 k))]) (rest := []) (v := none) (h1 := (Gc L xs A B U V (sk d (S.2.2.2.1 k) S) d X)) rfl rfl rfl rfl (eg (Nat.le_of_ble_eq_true rfl) (show 22 ≤ lo by omega) (Nat.le_of_ble_eq_true rfl)) (c_noteBlocks (show 66 ≤ lo - 22 by omega) hd hi) ?_
      refine eR.step 5 (F' := (47, [(0, .ref 10), (1, .int (nI (k)))], [.int (nI (k)), .ref 14, .ref 8])) (h' := (Gc L xs A B U V (sk d (S.2.2.2.1 k) S) d X)) (fun _ _ => rfl) ?_
      refine eR.sim rfl (F := (48, [(0, .ref 10), (1, .int (nI (k)))], [.int (nI (S.2.2.2.1 k)), .ref 8])) (h' := (Gc L xs A B U V (sk d (S.2.2.2.1 k) S) d X)) (by simp [mj_sim, mj_ar, mj_gi, Gc, na_ix (show k < 16 by omega) (by decide), sk_q]) ?_
      refine eR.call (k' := 41) (as := [.ref 8, .int (nI (S.2.2.2.1 k))]) (rest := []) (v := some (.int (nI (d (32 + (16 * (S.2.2.2.1 k))))))) (h1 := (Gc L xs A B U V (sk d (S.2.2.2.1 k) S) d X)) rfl rfl rfl rfl (eg (Nat.le_of_ble_eq_true rfl) (show 21 ≤ lo by omega) (Nat.le_of_ble_eq_true rfl)) (c_kind (show 21 ≤ lo - 21 by omega) hd hi) ?_
      refine eR.step 1 (F' := (52, [(0, .ref 10), (1, .int (nI (k)))], [.int (nI 2), .int (nI (d (32 + (16 * (S.2.2.2.1 k)))))])) (h' := (Gc L xs A B U V (sk d (S.2.2.2.1 k) S) d X)) (fun _ _ => rfl) ?_
      have h7 := hd.1 (32 + (16 * (S.2.2.2.1 k)))
      by_cases h2 : d (32 + (16 * (S.2.2.2.1 k))) = 2
      · rw [show sG d (S.2.2.2.1 k) S = sS d (S.2.2.2.1 k) (sk d (S.2.2.2.1 k) S) 0 (sn d (S.2.2.2.1 k)) from if_pos h2]
        refine eR.icmp rfl false ((nc_ne (by omega) (by decide)).trans (decide_eq_false (by omega))) ?_
        refine eR.step 4 (F' := (61, [(0, .ref 10), (1, .int (nI (k)))], [.int (nI (k)), .ref 14, .ref 10])) (h' := (Gc L xs A B U V (sk d (S.2.2.2.1 k) S) d X)) (fun _ _ => rfl) ?_
        refine eR.sim rfl (F := (62, [(0, .ref 10), (1, .int (nI (k)))], [.int (nI (S.2.2.2.1 k)), .ref 10])) (h' := (Gc L xs A B U V (sk d (S.2.2.2.1 k) S) d X)) (by simp [mj_sim, mj_ar, mj_gi, Gc, na_ix (show k < 16 by omega) (by decide), sk_q]) ?_
        refine eR.call (k' := 49) (as := [.ref 10, .int (nI (S.2.2.2.1 k))]) (rest := []) (v := none) (h1 := (Gc L xs A B U V (sS d (S.2.2.2.1 k) (sk d (S.2.2.2.1 k) S) 0 (sn d (S.2.2.2.1 k))) d X)) rfl rfl rfl rfl (eg (Nat.le_of_ble_eq_true rfl) (show 24 ≤ lo by omega) (Nat.le_of_ble_eq_true rfl)) (c_noteSlots (S := sk d (S.2.2.2.1 k) S) (show 66 ≤ lo - 24 by omega) hd (sv_of hs (sk_q d _ S)) hi) ?_
        refine eR.step 1 (F' := (68, [(0, .ref 10), (1, .int (nI (k) + 1))], [])) (h' := (Gc L xs A B U V (sS d (S.2.2.2.1 k) (sk d (S.2.2.2.1 k) S) 0 (sn d (S.2.2.2.1 k))) d X)) (fun _ _ => rfl) ?_
        rw [show nI (k) + 1 = nI (k + 1) from nI_add (k) 1]
        refine eR.step 1 (F' := (11, [(0, .ref 10), (1, .int (nI (k + 1)))], [])) (h' := (Gc L xs A B U V (sS d (S.2.2.2.1 k) (sk d (S.2.2.2.1 k) S) 0 (sn d (S.2.2.2.1 k))) d X)) (fun _ _ => rfl) ?_
        exact l_goThrough hlo hd n (k + 1) _ (sv_sS d _ _ 0 _ (sv_of hs (sk_q d _ S))) (by omega)
      · rw [show sG d (S.2.2.2.1 k) S = sk d (S.2.2.2.1 k) S from if_neg h2]
        refine eR.icmp rfl true ((nc_ne (by omega) (by decide)).trans (decide_eq_true (by omega))) ?_
        refine eR.step 1 (F' := (68, [(0, .ref 10), (1, .int (nI (k) + 1))], [])) (h' := (Gc L xs A B U V (sk d (S.2.2.2.1 k) S) d X)) (fun _ _ => rfl) ?_
        rw [show nI (k) + 1 = nI (k + 1) from nI_add (k) 1]
        refine eR.step 1 (F' := (11, [(0, .ref 10), (1, .int (nI (k + 1)))], [])) (h' := (Gc L xs A B U V (sk d (S.2.2.2.1 k) S) d X)) (fun _ _ => rfl) ?_
        exact l_goThrough hlo hd n (k + 1) _ (sv_of hs (sk_q d _ S)) (by omega)
    · rw [if_neg h0]
      refine eR.icmp rfl true ((nc_ge (by omega) (by omega)).trans (decide_eq_true (by omega))) ?_
      exact eR.ret rfl rfl rfl
theorem c_goThrough {cm sm fr lo L : Nat} {xs : Nat → Int32} {A B : gT} {U V : gU} {S : gS} {d : Nat → Nat} {X : mj_H} (hlo : 90 ≤ lo) (hd : dk d) (hs : sv S) : eE mm_P cm sm (fr + 5) lo 43 [.ref 10] (Gc L xs A B U V S d X) (.inl (none), (Gc L xs A B U V (sW d S) d X)) := by
  refine eE.of ?_
  refine eR.step 1 (F' := (1, [(0, .ref 10)], [.ref 10])) (h' := (Gc L xs A B U V S d X)) (fun _ _ => rfl) ?_
  refine eR.call (k' := 44) (as := [.ref 10]) (rest := []) (v := none) (h1 := (Gc L xs A B U V (fg S) d X)) rfl rfl rfl rfl (eg (Nat.le_of_ble_eq_true rfl) (show 21 ≤ lo by omega) (Nat.le_of_ble_eq_true rfl)) (c_forget) ?_
  refine eR.step 2 (F' := (6, [(0, .ref 10)], [.int (nI 1), .ref 10])) (h' := (Gc L xs A B U V (fg S) d X)) (fun _ _ => rfl) ?_
  refine eR.call (k' := 45) (as := [.ref 10, .int (nI 1)]) (rest := []) (v := none) (h1 := (Gc L xs A B U V (sI (fg S) 1) d X)) rfl rfl rfl rfl (eg (Nat.le_of_ble_eq_true rfl) (show 21 ≤ lo by omega) (Nat.le_of_ble_eq_true rfl)) (c_noteInode (S := fg S) ⟨hs.1, Nat.zero_le _⟩ (by decide)) ?_
  refine eR.step 2 (F' := (11, [(0, .ref 10), (1, .int (nI 0))], [])) (h' := (Gc L xs A B U V (sI (fg S) 1) d X)) (fun _ _ => rfl) ?_
  exact l_goThrough hlo hd 16 0 _ (sv_sI (S := fg S) ⟨hs.1, Nat.zero_le _⟩ (by decide)) (by decide)

